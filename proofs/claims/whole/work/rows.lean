section
/-- a private method of a class that the tables say can be made, by its rows of tables_1 -/
def lw_okq (q : MethodName × Nat) : Prop := (q.1.cls ≠ "java/lang/invoke/MethodHandle" ∧ q.1.cls ≠ "java/lang/invoke/VarHandle") ∧ Cond.instantiable q.1.cls q.2 ∈ tables_1 ∧ Cond.privateMethod q.1 ∈ tables_1 ∧ Cond.instanceMethod q.1 ∈ tables_1
theorem lw_p0 : lw_okq (⟨"PoundVotes", "textOf", "(I)LPoundVotes$Text;"⟩, 20) := ⟨⟨by decide +kernel, by decide +kernel⟩, List.mem_of_getElem? (i := 16) (by decide +kernel), List.mem_of_getElem? (i := 314) (by decide +kernel), List.mem_of_getElem? (i := 315) (by decide +kernel)⟩
theorem lw_p1 : lw_okq (⟨"PoundVotes$Text", "fits", "(I)Z"⟩, 3) := ⟨⟨by decide +kernel, by decide +kernel⟩, List.mem_of_getElem? (i := 24) (by decide +kernel), List.mem_of_getElem? (i := 343) (by decide +kernel), List.mem_of_getElem? (i := 344) (by decide +kernel)⟩
theorem lw_p2 : lw_okq (⟨"PoundVotes", "settle", "()V"⟩, 20) := ⟨⟨by decide +kernel, by decide +kernel⟩, List.mem_of_getElem? (i := 16) (by decide +kernel), List.mem_of_getElem? (i := 351) (by decide +kernel), List.mem_of_getElem? (i := 352) (by decide +kernel)⟩
theorem lw_p3 : lw_okq (⟨"PoundVotes$Roll", "carry", "(ILPoundVotes$Text;)V"⟩, 6) := ⟨⟨by decide +kernel, by decide +kernel⟩, List.mem_of_getElem? (i := 61) (by decide +kernel), List.mem_of_getElem? (i := 368) (by decide +kernel), List.mem_of_getElem? (i := 369) (by decide +kernel)⟩
theorem lw_p4 : lw_okq (⟨"PoundVotes$Roll", "alter", "(ILPoundVotes$Rows;)V"⟩, 6) := ⟨⟨by decide +kernel, by decide +kernel⟩, List.mem_of_getElem? (i := 61) (by decide +kernel), List.mem_of_getElem? (i := 376) (by decide +kernel), List.mem_of_getElem? (i := 377) (by decide +kernel)⟩
theorem lw_p5 : lw_okq (⟨"PoundVotes", "pollBy", "(I)LPoundVotes$Poll;"⟩, 20) := ⟨⟨by decide +kernel, by decide +kernel⟩, List.mem_of_getElem? (i := 16) (by decide +kernel), List.mem_of_getElem? (i := 380) (by decide +kernel), List.mem_of_getElem? (i := 381) (by decide +kernel)⟩
theorem lw_p6 : lw_okq (⟨"PoundVotes$Poll", "leaveOpen", "(II)V"⟩, 7) := ⟨⟨by decide +kernel, by decide +kernel⟩, List.mem_of_getElem? (i := 95) (by decide +kernel), List.mem_of_getElem? (i := 388) (by decide +kernel), List.mem_of_getElem? (i := 389) (by decide +kernel)⟩
theorem lw_p7 : lw_okq (⟨"PoundVotes$Poll", "hold", "(II)V"⟩, 7) := ⟨⟨by decide +kernel, by decide +kernel⟩, List.mem_of_getElem? (i := 95) (by decide +kernel), List.mem_of_getElem? (i := 392) (by decide +kernel), List.mem_of_getElem? (i := 393) (by decide +kernel)⟩
theorem lw_p8 : lw_okq (⟨"PoundVotes$Poll", "approve", "([II)V"⟩, 7) := ⟨⟨by decide +kernel, by decide +kernel⟩, List.mem_of_getElem? (i := 95) (by decide +kernel), List.mem_of_getElem? (i := 408) (by decide +kernel), List.mem_of_getElem? (i := 409) (by decide +kernel)⟩
theorem lw_p9 : lw_okq (⟨"PoundVotes$Poll", "repeatFirst", "(II)V"⟩, 7) := ⟨⟨by decide +kernel, by decide +kernel⟩, List.mem_of_getElem? (i := 95) (by decide +kernel), List.mem_of_getElem? (i := 416) (by decide +kernel), List.mem_of_getElem? (i := 417) (by decide +kernel)⟩
theorem lw_p10 : lw_okq (⟨"PoundVotes", "isParty", "(I)Z"⟩, 20) := ⟨⟨by decide +kernel, by decide +kernel⟩, List.mem_of_getElem? (i := 16) (by decide +kernel), List.mem_of_getElem? (i := 426) (by decide +kernel), List.mem_of_getElem? (i := 427) (by decide +kernel)⟩
theorem lw_p11 : lw_okq (⟨"PoundVotes", "isOnRoll", "(I)Z"⟩, 20) := ⟨⟨by decide +kernel, by decide +kernel⟩, List.mem_of_getElem? (i := 16) (by decide +kernel), List.mem_of_getElem? (i := 438) (by decide +kernel), List.mem_of_getElem? (i := 439) (by decide +kernel)⟩
theorem lw_p12 : lw_okq (⟨"PoundVotes", "moneyBehind", "(II)I"⟩, 20) := ⟨⟨by decide +kernel, by decide +kernel⟩, List.mem_of_getElem? (i := 16) (by decide +kernel), List.mem_of_getElem? (i := 514) (by decide +kernel), List.mem_of_getElem? (i := 515) (by decide +kernel)⟩
theorem lw_p13 : lw_okq (⟨"PoundVotes", "paid", "([I)I"⟩, 20) := ⟨⟨by decide +kernel, by decide +kernel⟩, List.mem_of_getElem? (i := 16) (by decide +kernel), List.mem_of_getElem? (i := 518) (by decide +kernel), List.mem_of_getElem? (i := 519) (by decide +kernel)⟩
theorem lw_p14 : lw_okq (⟨"PoundVotes", "paidBy", "([II)I"⟩, 20) := ⟨⟨by decide +kernel, by decide +kernel⟩, List.mem_of_getElem? (i := 16) (by decide +kernel), List.mem_of_getElem? (i := 522) (by decide +kernel), List.mem_of_getElem? (i := 523) (by decide +kernel)⟩
theorem lw_p15 : lw_okq (⟨"PoundVotes", "firstRuin", "()I"⟩, 20) := ⟨⟨by decide +kernel, by decide +kernel⟩, List.mem_of_getElem? (i := 16) (by decide +kernel), List.mem_of_getElem? (i := 530) (by decide +kernel), List.mem_of_getElem? (i := 531) (by decide +kernel)⟩
def lw_privs_1 : List (MethodName × Nat) := [(⟨"PoundVotes", "textOf", "(I)LPoundVotes$Text;"⟩, 20), (⟨"PoundVotes$Text", "fits", "(I)Z"⟩, 3), (⟨"PoundVotes", "settle", "()V"⟩, 20), (⟨"PoundVotes$Roll", "carry", "(ILPoundVotes$Text;)V"⟩, 6), (⟨"PoundVotes$Roll", "alter", "(ILPoundVotes$Rows;)V"⟩, 6), (⟨"PoundVotes", "pollBy", "(I)LPoundVotes$Poll;"⟩, 20), (⟨"PoundVotes$Poll", "leaveOpen", "(II)V"⟩, 7), (⟨"PoundVotes$Poll", "hold", "(II)V"⟩, 7), (⟨"PoundVotes$Poll", "approve", "([II)V"⟩, 7), (⟨"PoundVotes$Poll", "repeatFirst", "(II)V"⟩, 7), (⟨"PoundVotes", "isParty", "(I)Z"⟩, 20), (⟨"PoundVotes", "isOnRoll", "(I)Z"⟩, 20), (⟨"PoundVotes", "moneyBehind", "(II)I"⟩, 20), (⟨"PoundVotes", "paid", "([I)I"⟩, 20), (⟨"PoundVotes", "paidBy", "([II)I"⟩, 20), (⟨"PoundVotes", "firstRuin", "()I"⟩, 20)]
theorem lw_r1 : ∀ q ∈ lw_privs_1, lw_okq q := List.forall_mem_cons.mpr ⟨lw_p0, List.forall_mem_cons.mpr ⟨lw_p1, List.forall_mem_cons.mpr ⟨lw_p2, List.forall_mem_cons.mpr ⟨lw_p3, List.forall_mem_cons.mpr ⟨lw_p4, List.forall_mem_cons.mpr ⟨lw_p5, List.forall_mem_cons.mpr ⟨lw_p6, List.forall_mem_cons.mpr ⟨lw_p7, List.forall_mem_cons.mpr ⟨lw_p8, List.forall_mem_cons.mpr ⟨lw_p9, List.forall_mem_cons.mpr ⟨lw_p10, List.forall_mem_cons.mpr ⟨lw_p11, List.forall_mem_cons.mpr ⟨lw_p12, List.forall_mem_cons.mpr ⟨lw_p13, List.forall_mem_cons.mpr ⟨lw_p14, List.forall_mem_cons.mpr ⟨lw_p15, fun _ h => absurd h List.not_mem_nil⟩⟩⟩⟩⟩⟩⟩⟩⟩⟩⟩⟩⟩⟩⟩⟩
theorem lw_p16 : lw_okq (⟨"PoundVotes$Ballot", "players", "()I"⟩, 13) := ⟨⟨by decide +kernel, by decide +kernel⟩, List.mem_of_getElem? (i := 124) (by decide +kernel), List.mem_of_getElem? (i := 547) (by decide +kernel), List.mem_of_getElem? (i := 548) (by decide +kernel)⟩
theorem lw_p17 : lw_okq (⟨"PoundVotes$Ballot", "prepare", "()V"⟩, 13) := ⟨⟨by decide +kernel, by decide +kernel⟩, List.mem_of_getElem? (i := 124) (by decide +kernel), List.mem_of_getElem? (i := 558) (by decide +kernel), List.mem_of_getElem? (i := 559) (by decide +kernel)⟩
theorem lw_p18 : lw_okq (⟨"PoundVotes$Ballot", "isContent", "(II)Z"⟩, 13) := ⟨⟨by decide +kernel, by decide +kernel⟩, List.mem_of_getElem? (i := 124) (by decide +kernel), List.mem_of_getElem? (i := 565) (by decide +kernel), List.mem_of_getElem? (i := 566) (by decide +kernel)⟩
theorem lw_p19 : lw_okq (⟨"PoundVotes$Ballot", "restsOfSpread", "(II)I"⟩, 13) := ⟨⟨by decide +kernel, by decide +kernel⟩, List.mem_of_getElem? (i := 124) (by decide +kernel), List.mem_of_getElem? (i := 577) (by decide +kernel), List.mem_of_getElem? (i := 578) (by decide +kernel)⟩
theorem lw_p20 : lw_okq (⟨"PoundVotes$Ballot", "restsOfSums", "()I"⟩, 13) := ⟨⟨by decide +kernel, by decide +kernel⟩, List.mem_of_getElem? (i := 124) (by decide +kernel), List.mem_of_getElem? (i := 581) (by decide +kernel), List.mem_of_getElem? (i := 582) (by decide +kernel)⟩
theorem lw_p21 : lw_okq (⟨"PoundVotes$Ballot", "rowsFrom", "(I)I"⟩, 13) := ⟨⟨by decide +kernel, by decide +kernel⟩, List.mem_of_getElem? (i := 124) (by decide +kernel), List.mem_of_getElem? (i := 585) (by decide +kernel), List.mem_of_getElem? (i := 586) (by decide +kernel)⟩
theorem lw_p22 : lw_okq (⟨"PoundVotes$Ballot", "findWin", "(I)V"⟩, 13) := ⟨⟨by decide +kernel, by decide +kernel⟩, List.mem_of_getElem? (i := 124) (by decide +kernel), List.mem_of_getElem? (i := 597) (by decide +kernel), List.mem_of_getElem? (i := 598) (by decide +kernel)⟩
theorem lw_p23 : lw_okq (⟨"PoundVotes$Ballot", "fillSupport", "(I)V"⟩, 13) := ⟨⟨by decide +kernel, by decide +kernel⟩, List.mem_of_getElem? (i := 124) (by decide +kernel), List.mem_of_getElem? (i := 601) (by decide +kernel), List.mem_of_getElem? (i := 602) (by decide +kernel)⟩
theorem lw_p24 : lw_okq (⟨"PoundVotes$Ballot", "tryTicket", "(IIII)V"⟩, 13) := ⟨⟨by decide +kernel, by decide +kernel⟩, List.mem_of_getElem? (i := 124) (by decide +kernel), List.mem_of_getElem? (i := 610) (by decide +kernel), List.mem_of_getElem? (i := 611) (by decide +kernel)⟩
theorem lw_p25 : lw_okq (⟨"PoundVotes$Ballot", "fillOdds", "(I)V"⟩, 13) := ⟨⟨by decide +kernel, by decide +kernel⟩, List.mem_of_getElem? (i := 124) (by decide +kernel), List.mem_of_getElem? (i := 628) (by decide +kernel), List.mem_of_getElem? (i := 629) (by decide +kernel)⟩
theorem lw_p26 : lw_okq (⟨"PoundVotes$Ballot", "isEven", "(III)Z"⟩, 13) := ⟨⟨by decide +kernel, by decide +kernel⟩, List.mem_of_getElem? (i := 124) (by decide +kernel), List.mem_of_getElem? (i := 633) (by decide +kernel), List.mem_of_getElem? (i := 634) (by decide +kernel)⟩
theorem lw_p27 : lw_okq (⟨"PoundVotes$Worths", "startAnew", "()V"⟩, 3) := ⟨⟨by decide +kernel, by decide +kernel⟩, List.mem_of_getElem? (i := 171) (by decide +kernel), List.mem_of_getElem? (i := 651) (by decide +kernel), List.mem_of_getElem? (i := 652) (by decide +kernel)⟩
theorem lw_p28 : lw_okq (⟨"PoundVotes$Worths", "takes", "(LPoundVotes$Text;I)Z"⟩, 3) := ⟨⟨by decide +kernel, by decide +kernel⟩, List.mem_of_getElem? (i := 171) (by decide +kernel), List.mem_of_getElem? (i := 655) (by decide +kernel), List.mem_of_getElem? (i := 656) (by decide +kernel)⟩
theorem lw_p29 : lw_okq (⟨"PoundVotes$Worths", "join", "(IIJ)V"⟩, 3) := ⟨⟨by decide +kernel, by decide +kernel⟩, List.mem_of_getElem? (i := 171) (by decide +kernel), List.mem_of_getElem? (i := 664) (by decide +kernel), List.mem_of_getElem? (i := 665) (by decide +kernel)⟩
theorem lw_p30 : lw_okq (⟨"PoundVotes$Worths", "agreesWithout", "(LPoundVotes$Text;II)Z"⟩, 3) := ⟨⟨by decide +kernel, by decide +kernel⟩, List.mem_of_getElem? (i := 171) (by decide +kernel), List.mem_of_getElem? (i := 695) (by decide +kernel), List.mem_of_getElem? (i := 696) (by decide +kernel)⟩
theorem lw_p31 : lw_okq (⟨"PoundVotes$Towns", "goOn", "(IIII)V"⟩, 7) := ⟨⟨by decide +kernel, by decide +kernel⟩, List.mem_of_getElem? (i := 188) (by decide +kernel), List.mem_of_getElem? (i := 719) (by decide +kernel), List.mem_of_getElem? (i := 720) (by decide +kernel)⟩
def lw_privs_2 : List (MethodName × Nat) := [(⟨"PoundVotes$Ballot", "players", "()I"⟩, 13), (⟨"PoundVotes$Ballot", "prepare", "()V"⟩, 13), (⟨"PoundVotes$Ballot", "isContent", "(II)Z"⟩, 13), (⟨"PoundVotes$Ballot", "restsOfSpread", "(II)I"⟩, 13), (⟨"PoundVotes$Ballot", "restsOfSums", "()I"⟩, 13), (⟨"PoundVotes$Ballot", "rowsFrom", "(I)I"⟩, 13), (⟨"PoundVotes$Ballot", "findWin", "(I)V"⟩, 13), (⟨"PoundVotes$Ballot", "fillSupport", "(I)V"⟩, 13), (⟨"PoundVotes$Ballot", "tryTicket", "(IIII)V"⟩, 13), (⟨"PoundVotes$Ballot", "fillOdds", "(I)V"⟩, 13), (⟨"PoundVotes$Ballot", "isEven", "(III)Z"⟩, 13), (⟨"PoundVotes$Worths", "startAnew", "()V"⟩, 3), (⟨"PoundVotes$Worths", "takes", "(LPoundVotes$Text;I)Z"⟩, 3), (⟨"PoundVotes$Worths", "join", "(IIJ)V"⟩, 3), (⟨"PoundVotes$Worths", "agreesWithout", "(LPoundVotes$Text;II)Z"⟩, 3), (⟨"PoundVotes$Towns", "goOn", "(IIII)V"⟩, 7)]
theorem lw_r2 : ∀ q ∈ lw_privs_2, lw_okq q := List.forall_mem_cons.mpr ⟨lw_p16, List.forall_mem_cons.mpr ⟨lw_p17, List.forall_mem_cons.mpr ⟨lw_p18, List.forall_mem_cons.mpr ⟨lw_p19, List.forall_mem_cons.mpr ⟨lw_p20, List.forall_mem_cons.mpr ⟨lw_p21, List.forall_mem_cons.mpr ⟨lw_p22, List.forall_mem_cons.mpr ⟨lw_p23, List.forall_mem_cons.mpr ⟨lw_p24, List.forall_mem_cons.mpr ⟨lw_p25, List.forall_mem_cons.mpr ⟨lw_p26, List.forall_mem_cons.mpr ⟨lw_p27, List.forall_mem_cons.mpr ⟨lw_p28, List.forall_mem_cons.mpr ⟨lw_p29, List.forall_mem_cons.mpr ⟨lw_p30, List.forall_mem_cons.mpr ⟨lw_p31, fun _ h => absurd h List.not_mem_nil⟩⟩⟩⟩⟩⟩⟩⟩⟩⟩⟩⟩⟩⟩⟩⟩
theorem lw_p32 : lw_okq (⟨"PoundVotes$Towns", "comeBack", "(III)V"⟩, 7) := ⟨⟨by decide +kernel, by decide +kernel⟩, List.mem_of_getElem? (i := 188) (by decide +kernel), List.mem_of_getElem? (i := 723) (by decide +kernel), List.mem_of_getElem? (i := 724) (by decide +kernel)⟩
theorem lw_p33 : lw_okq (⟨"PoundVotes$Towns", "isOnWay", "(II)Z"⟩, 7) := ⟨⟨by decide +kernel, by decide +kernel⟩, List.mem_of_getElem? (i := 188) (by decide +kernel), List.mem_of_getElem? (i := 728) (by decide +kernel), List.mem_of_getElem? (i := 729) (by decide +kernel)⟩
theorem lw_p34 : lw_okq (⟨"PoundVotes", "find", "(I)I"⟩, 20) := ⟨⟨by decide +kernel, by decide +kernel⟩, List.mem_of_getElem? (i := 16) (by decide +kernel), List.mem_of_getElem? (i := 756) (by decide +kernel), List.mem_of_getElem? (i := 757) (by decide +kernel)⟩
theorem lw_p35 : lw_okq (⟨"PoundVotes", "mixYears", "(J)J"⟩, 20) := ⟨⟨by decide +kernel, by decide +kernel⟩, List.mem_of_getElem? (i := 16) (by decide +kernel), List.mem_of_getElem? (i := 829) (by decide +kernel), List.mem_of_getElem? (i := 830) (by decide +kernel)⟩
theorem lw_p36 : lw_okq (⟨"PoundVotes", "mixPeople", "(J)J"⟩, 20) := ⟨⟨by decide +kernel, by decide +kernel⟩, List.mem_of_getElem? (i := 16) (by decide +kernel), List.mem_of_getElem? (i := 840) (by decide +kernel), List.mem_of_getElem? (i := 841) (by decide +kernel)⟩
theorem lw_p37 : lw_okq (⟨"PoundVotes", "mixVotes", "(J)J"⟩, 20) := ⟨⟨by decide +kernel, by decide +kernel⟩, List.mem_of_getElem? (i := 16) (by decide +kernel), List.mem_of_getElem? (i := 848) (by decide +kernel), List.mem_of_getElem? (i := 849) (by decide +kernel)⟩
theorem lw_p38 : lw_okq (⟨"PoundVotes", "mixRatios", "(J)J"⟩, 20) := ⟨⟨by decide +kernel, by decide +kernel⟩, List.mem_of_getElem? (i := 16) (by decide +kernel), List.mem_of_getElem? (i := 855) (by decide +kernel), List.mem_of_getElem? (i := 856) (by decide +kernel)⟩
theorem lw_p39 : lw_okq (⟨"PoundVotesModel", "met", "(I)I"⟩, 34) := ⟨⟨by decide +kernel, by decide +kernel⟩, List.mem_of_getElem? (i := 864) (by decide +kernel), List.mem_of_getElem? (i := 985) (by decide +kernel), List.mem_of_getElem? (i := 986) (by decide +kernel)⟩
theorem lw_p40 : lw_okq (⟨"PoundVotesModel", "lacks", "(III)I"⟩, 34) := ⟨⟨by decide +kernel, by decide +kernel⟩, List.mem_of_getElem? (i := 864) (by decide +kernel), List.mem_of_getElem? (i := 997) (by decide +kernel), List.mem_of_getElem? (i := 998) (by decide +kernel)⟩
theorem lw_p41 : lw_okq (⟨"PoundVotesModel", "readsText", "(I)I"⟩, 34) := ⟨⟨by decide +kernel, by decide +kernel⟩, List.mem_of_getElem? (i := 864) (by decide +kernel), List.mem_of_getElem? (i := 1033) (by decide +kernel), List.mem_of_getElem? (i := 1034) (by decide +kernel)⟩
theorem lw_p42 : lw_okq (⟨"PoundVotesModel", "readsThing", "(I)Z"⟩, 34) := ⟨⟨by decide +kernel, by decide +kernel⟩, List.mem_of_getElem? (i := 864) (by decide +kernel), List.mem_of_getElem? (i := 1037) (by decide +kernel), List.mem_of_getElem? (i := 1038) (by decide +kernel)⟩
theorem lw_p43 : lw_okq (⟨"PoundVotesModel", "tells", "(III)I"⟩, 34) := ⟨⟨by decide +kernel, by decide +kernel⟩, List.mem_of_getElem? (i := 864) (by decide +kernel), List.mem_of_getElem? (i := 1041) (by decide +kernel), List.mem_of_getElem? (i := 1042) (by decide +kernel)⟩
theorem lw_p44 : lw_okq (⟨"PoundVotesModel", "here", "(I)I"⟩, 34) := ⟨⟨by decide +kernel, by decide +kernel⟩, List.mem_of_getElem? (i := 864) (by decide +kernel), List.mem_of_getElem? (i := 1045) (by decide +kernel), List.mem_of_getElem? (i := 1046) (by decide +kernel)⟩
theorem lw_p45 : lw_okq (⟨"PoundVotesModel", "reads", "()V"⟩, 34) := ⟨⟨by decide +kernel, by decide +kernel⟩, List.mem_of_getElem? (i := 864) (by decide +kernel), List.mem_of_getElem? (i := 1058) (by decide +kernel), List.mem_of_getElem? (i := 1059) (by decide +kernel)⟩
theorem lw_p46 : lw_okq (⟨"PoundVotesModel", "isVoter", "(I)Z"⟩, 34) := ⟨⟨by decide +kernel, by decide +kernel⟩, List.mem_of_getElem? (i := 864) (by decide +kernel), List.mem_of_getElem? (i := 1062) (by decide +kernel), List.mem_of_getElem? (i := 1063) (by decide +kernel)⟩
theorem lw_p47 : lw_okq (⟨"PoundVotesModel", "isParty", "(I)Z"⟩, 34) := ⟨⟨by decide +kernel, by decide +kernel⟩, List.mem_of_getElem? (i := 864) (by decide +kernel), List.mem_of_getElem? (i := 1097) (by decide +kernel), List.mem_of_getElem? (i := 1098) (by decide +kernel)⟩
def lw_privs_3 : List (MethodName × Nat) := [(⟨"PoundVotes$Towns", "comeBack", "(III)V"⟩, 7), (⟨"PoundVotes$Towns", "isOnWay", "(II)Z"⟩, 7), (⟨"PoundVotes", "find", "(I)I"⟩, 20), (⟨"PoundVotes", "mixYears", "(J)J"⟩, 20), (⟨"PoundVotes", "mixPeople", "(J)J"⟩, 20), (⟨"PoundVotes", "mixVotes", "(J)J"⟩, 20), (⟨"PoundVotes", "mixRatios", "(J)J"⟩, 20), (⟨"PoundVotesModel", "met", "(I)I"⟩, 34), (⟨"PoundVotesModel", "lacks", "(III)I"⟩, 34), (⟨"PoundVotesModel", "readsText", "(I)I"⟩, 34), (⟨"PoundVotesModel", "readsThing", "(I)Z"⟩, 34), (⟨"PoundVotesModel", "tells", "(III)I"⟩, 34), (⟨"PoundVotesModel", "here", "(I)I"⟩, 34), (⟨"PoundVotesModel", "reads", "()V"⟩, 34), (⟨"PoundVotesModel", "isVoter", "(I)Z"⟩, 34), (⟨"PoundVotesModel", "isParty", "(I)Z"⟩, 34)]
theorem lw_r3 : ∀ q ∈ lw_privs_3, lw_okq q := List.forall_mem_cons.mpr ⟨lw_p32, List.forall_mem_cons.mpr ⟨lw_p33, List.forall_mem_cons.mpr ⟨lw_p34, List.forall_mem_cons.mpr ⟨lw_p35, List.forall_mem_cons.mpr ⟨lw_p36, List.forall_mem_cons.mpr ⟨lw_p37, List.forall_mem_cons.mpr ⟨lw_p38, List.forall_mem_cons.mpr ⟨lw_p39, List.forall_mem_cons.mpr ⟨lw_p40, List.forall_mem_cons.mpr ⟨lw_p41, List.forall_mem_cons.mpr ⟨lw_p42, List.forall_mem_cons.mpr ⟨lw_p43, List.forall_mem_cons.mpr ⟨lw_p44, List.forall_mem_cons.mpr ⟨lw_p45, List.forall_mem_cons.mpr ⟨lw_p46, List.forall_mem_cons.mpr ⟨lw_p47, fun _ h => absurd h List.not_mem_nil⟩⟩⟩⟩⟩⟩⟩⟩⟩⟩⟩⟩⟩⟩⟩⟩
theorem lw_p48 : lw_okq (⟨"PoundVotesModel", "ticketOf", "(III)I"⟩, 34) := ⟨⟨by decide +kernel, by decide +kernel⟩, List.mem_of_getElem? (i := 864) (by decide +kernel), List.mem_of_getElem? (i := 1101) (by decide +kernel), List.mem_of_getElem? (i := 1102) (by decide +kernel)⟩
theorem lw_p49 : lw_okq (⟨"PoundVotesModel", "livesNow", "()V"⟩, 34) := ⟨⟨by decide +kernel, by decide +kernel⟩, List.mem_of_getElem? (i := 864) (by decide +kernel), List.mem_of_getElem? (i := 1109) (by decide +kernel), List.mem_of_getElem? (i := 1110) (by decide +kernel)⟩
theorem lw_p50 : lw_okq (⟨"PoundVotesModel", "lives", "(I)V"⟩, 34) := ⟨⟨by decide +kernel, by decide +kernel⟩, List.mem_of_getElem? (i := 864) (by decide +kernel), List.mem_of_getElem? (i := 1113) (by decide +kernel), List.mem_of_getElem? (i := 1114) (by decide +kernel)⟩
theorem lw_p51 : lw_okq (⟨"PoundVotesModel", "counts", "(IIII)V"⟩, 34) := ⟨⟨by decide +kernel, by decide +kernel⟩, List.mem_of_getElem? (i := 864) (by decide +kernel), List.mem_of_getElem? (i := 1117) (by decide +kernel), List.mem_of_getElem? (i := 1118) (by decide +kernel)⟩
theorem lw_p52 : lw_okq (⟨"PoundVotesModel", "approves", "(IIII)Z"⟩, 34) := ⟨⟨by decide +kernel, by decide +kernel⟩, List.mem_of_getElem? (i := 864) (by decide +kernel), List.mem_of_getElem? (i := 1121) (by decide +kernel), List.mem_of_getElem? (i := 1122) (by decide +kernel)⟩
theorem lw_p53 : lw_okq (⟨"PoundVotesModel", "gain", "(III)I"⟩, 34) := ⟨⟨by decide +kernel, by decide +kernel⟩, List.mem_of_getElem? (i := 864) (by decide +kernel), List.mem_of_getElem? (i := 1125) (by decide +kernel), List.mem_of_getElem? (i := 1126) (by decide +kernel)⟩
theorem lw_p54 : lw_okq (⟨"PoundVotesModel", "holds", "(I)I"⟩, 34) := ⟨⟨by decide +kernel, by decide +kernel⟩, List.mem_of_getElem? (i := 864) (by decide +kernel), List.mem_of_getElem? (i := 1129) (by decide +kernel), List.mem_of_getElem? (i := 1130) (by decide +kernel)⟩
theorem lw_p55 : lw_okq (⟨"PoundVotesModel", "unitOf", "(I)I"⟩, 34) := ⟨⟨by decide +kernel, by decide +kernel⟩, List.mem_of_getElem? (i := 864) (by decide +kernel), List.mem_of_getElem? (i := 1133) (by decide +kernel), List.mem_of_getElem? (i := 1134) (by decide +kernel)⟩
theorem lw_p56 : lw_okq (⟨"PoundVotesModel", "choice", "(III)I"⟩, 34) := ⟨⟨by decide +kernel, by decide +kernel⟩, List.mem_of_getElem? (i := 864) (by decide +kernel), List.mem_of_getElem? (i := 1137) (by decide +kernel), List.mem_of_getElem? (i := 1138) (by decide +kernel)⟩
theorem lw_p57 : lw_okq (⟨"PoundVotesModel", "mostAt", "(II)I"⟩, 34) := ⟨⟨by decide +kernel, by decide +kernel⟩, List.mem_of_getElem? (i := 864) (by decide +kernel), List.mem_of_getElem? (i := 1141) (by decide +kernel), List.mem_of_getElem? (i := 1142) (by decide +kernel)⟩
theorem lw_p58 : lw_okq (⟨"PoundVotesModel", "greatOf", "(II)I"⟩, 34) := ⟨⟨by decide +kernel, by decide +kernel⟩, List.mem_of_getElem? (i := 864) (by decide +kernel), List.mem_of_getElem? (i := 1149) (by decide +kernel), List.mem_of_getElem? (i := 1150) (by decide +kernel)⟩
theorem lw_p59 : lw_okq (⟨"PoundVotesModel", "splitNow", "()I"⟩, 34) := ⟨⟨by decide +kernel, by decide +kernel⟩, List.mem_of_getElem? (i := 864) (by decide +kernel), List.mem_of_getElem? (i := 1161) (by decide +kernel), List.mem_of_getElem? (i := 1162) (by decide +kernel)⟩
theorem lw_p60 : lw_okq (⟨"PoundVotesModel", "moneyOf", "(II)I"⟩, 34) := ⟨⟨by decide +kernel, by decide +kernel⟩, List.mem_of_getElem? (i := 864) (by decide +kernel), List.mem_of_getElem? (i := 1173) (by decide +kernel), List.mem_of_getElem? (i := 1174) (by decide +kernel)⟩
theorem lw_p61 : lw_okq (⟨"PoundVotesModel", "pays", "(I)I"⟩, 34) := ⟨⟨by decide +kernel, by decide +kernel⟩, List.mem_of_getElem? (i := 864) (by decide +kernel), List.mem_of_getElem? (i := 1177) (by decide +kernel), List.mem_of_getElem? (i := 1178) (by decide +kernel)⟩
theorem lw_p62 : lw_okq (⟨"PoundVotesModel", "paysBy", "(II)I"⟩, 34) := ⟨⟨by decide +kernel, by decide +kernel⟩, List.mem_of_getElem? (i := 864) (by decide +kernel), List.mem_of_getElem? (i := 1181) (by decide +kernel), List.mem_of_getElem? (i := 1182) (by decide +kernel)⟩
theorem lw_p63 : lw_okq (⟨"PoundVotesModel", "ruinedOf", "(I)I"⟩, 34) := ⟨⟨by decide +kernel, by decide +kernel⟩, List.mem_of_getElem? (i := 864) (by decide +kernel), List.mem_of_getElem? (i := 1190) (by decide +kernel), List.mem_of_getElem? (i := 1191) (by decide +kernel)⟩
def lw_privs_4 : List (MethodName × Nat) := [(⟨"PoundVotesModel", "ticketOf", "(III)I"⟩, 34), (⟨"PoundVotesModel", "livesNow", "()V"⟩, 34), (⟨"PoundVotesModel", "lives", "(I)V"⟩, 34), (⟨"PoundVotesModel", "counts", "(IIII)V"⟩, 34), (⟨"PoundVotesModel", "approves", "(IIII)Z"⟩, 34), (⟨"PoundVotesModel", "gain", "(III)I"⟩, 34), (⟨"PoundVotesModel", "holds", "(I)I"⟩, 34), (⟨"PoundVotesModel", "unitOf", "(I)I"⟩, 34), (⟨"PoundVotesModel", "choice", "(III)I"⟩, 34), (⟨"PoundVotesModel", "mostAt", "(II)I"⟩, 34), (⟨"PoundVotesModel", "greatOf", "(II)I"⟩, 34), (⟨"PoundVotesModel", "splitNow", "()I"⟩, 34), (⟨"PoundVotesModel", "moneyOf", "(II)I"⟩, 34), (⟨"PoundVotesModel", "pays", "(I)I"⟩, 34), (⟨"PoundVotesModel", "paysBy", "(II)I"⟩, 34), (⟨"PoundVotesModel", "ruinedOf", "(I)I"⟩, 34)]
theorem lw_r4 : ∀ q ∈ lw_privs_4, lw_okq q := List.forall_mem_cons.mpr ⟨lw_p48, List.forall_mem_cons.mpr ⟨lw_p49, List.forall_mem_cons.mpr ⟨lw_p50, List.forall_mem_cons.mpr ⟨lw_p51, List.forall_mem_cons.mpr ⟨lw_p52, List.forall_mem_cons.mpr ⟨lw_p53, List.forall_mem_cons.mpr ⟨lw_p54, List.forall_mem_cons.mpr ⟨lw_p55, List.forall_mem_cons.mpr ⟨lw_p56, List.forall_mem_cons.mpr ⟨lw_p57, List.forall_mem_cons.mpr ⟨lw_p58, List.forall_mem_cons.mpr ⟨lw_p59, List.forall_mem_cons.mpr ⟨lw_p60, List.forall_mem_cons.mpr ⟨lw_p61, List.forall_mem_cons.mpr ⟨lw_p62, List.forall_mem_cons.mpr ⟨lw_p63, fun _ h => absurd h List.not_mem_nil⟩⟩⟩⟩⟩⟩⟩⟩⟩⟩⟩⟩⟩⟩⟩⟩
theorem lw_p64 : lw_okq (⟨"PoundVotesModel", "worstOf", "(I)I"⟩, 34) := ⟨⟨by decide +kernel, by decide +kernel⟩, List.mem_of_getElem? (i := 864) (by decide +kernel), List.mem_of_getElem? (i := 1198) (by decide +kernel), List.mem_of_getElem? (i := 1199) (by decide +kernel)⟩
theorem lw_p65 : lw_okq (⟨"PoundVotesModel", "restOf", "(I)I"⟩, 34) := ⟨⟨by decide +kernel, by decide +kernel⟩, List.mem_of_getElem? (i := 864) (by decide +kernel), List.mem_of_getElem? (i := 1210) (by decide +kernel), List.mem_of_getElem? (i := 1211) (by decide +kernel)⟩
theorem lw_p66 : lw_okq (⟨"PoundVotesModel", "chooses", "()V"⟩, 34) := ⟨⟨by decide +kernel, by decide +kernel⟩, List.mem_of_getElem? (i := 864) (by decide +kernel), List.mem_of_getElem? (i := 1214) (by decide +kernel), List.mem_of_getElem? (i := 1215) (by decide +kernel)⟩
theorem lw_p67 : lw_okq (⟨"PoundVotesModel", "isRow", "(I)Z"⟩, 34) := ⟨⟨by decide +kernel, by decide +kernel⟩, List.mem_of_getElem? (i := 864) (by decide +kernel), List.mem_of_getElem? (i := 1218) (by decide +kernel), List.mem_of_getElem? (i := 1219) (by decide +kernel)⟩
theorem lw_p68 : lw_okq (⟨"PoundVotesModel", "six", "()I"⟩, 34) := ⟨⟨by decide +kernel, by decide +kernel⟩, List.mem_of_getElem? (i := 864) (by decide +kernel), List.mem_of_getElem? (i := 1222) (by decide +kernel), List.mem_of_getElem? (i := 1223) (by decide +kernel)⟩
theorem lw_p69 : lw_okq (⟨"PoundVotesModel", "isRest", "()Z"⟩, 34) := ⟨⟨by decide +kernel, by decide +kernel⟩, List.mem_of_getElem? (i := 864) (by decide +kernel), List.mem_of_getElem? (i := 1226) (by decide +kernel), List.mem_of_getElem? (i := 1227) (by decide +kernel)⟩
theorem lw_p70 : lw_okq (⟨"PoundVotesModel", "mostTold", "()I"⟩, 34) := ⟨⟨by decide +kernel, by decide +kernel⟩, List.mem_of_getElem? (i := 864) (by decide +kernel), List.mem_of_getElem? (i := 1230) (by decide +kernel), List.mem_of_getElem? (i := 1231) (by decide +kernel)⟩
theorem lw_p71 : lw_okq (⟨"PoundVotesModel", "restsNow", "()I"⟩, 34) := ⟨⟨by decide +kernel, by decide +kernel⟩, List.mem_of_getElem? (i := 864) (by decide +kernel), List.mem_of_getElem? (i := 1238) (by decide +kernel), List.mem_of_getElem? (i := 1239) (by decide +kernel)⟩
theorem lw_p72 : lw_okq (⟨"PoundVotesModel", "findWish", "(I)V"⟩, 34) := ⟨⟨by decide +kernel, by decide +kernel⟩, List.mem_of_getElem? (i := 864) (by decide +kernel), List.mem_of_getElem? (i := 1246) (by decide +kernel), List.mem_of_getElem? (i := 1247) (by decide +kernel)⟩
theorem lw_p73 : lw_okq (⟨"PoundVotesModel", "isElectedBy", "(II)Z"⟩, 34) := ⟨⟨by decide +kernel, by decide +kernel⟩, List.mem_of_getElem? (i := 864) (by decide +kernel), List.mem_of_getElem? (i := 1250) (by decide +kernel), List.mem_of_getElem? (i := 1251) (by decide +kernel)⟩
theorem lw_p74 : lw_okq (⟨"PoundVotesModel", "gainBy", "(IIII)I"⟩, 34) := ⟨⟨by decide +kernel, by decide +kernel⟩, List.mem_of_getElem? (i := 864) (by decide +kernel), List.mem_of_getElem? (i := 1254) (by decide +kernel), List.mem_of_getElem? (i := 1255) (by decide +kernel)⟩
theorem lw_p75 : lw_okq (⟨"PoundVotesModel", "hedgeOf", "(I)I"⟩, 34) := ⟨⟨by decide +kernel, by decide +kernel⟩, List.mem_of_getElem? (i := 864) (by decide +kernel), List.mem_of_getElem? (i := 1262) (by decide +kernel), List.mem_of_getElem? (i := 1263) (by decide +kernel)⟩
theorem lw_p76 : lw_okq (⟨"PoundVotesModel", "isHedged", "(IIII)Z"⟩, 34) := ⟨⟨by decide +kernel, by decide +kernel⟩, List.mem_of_getElem? (i := 864) (by decide +kernel), List.mem_of_getElem? (i := 1266) (by decide +kernel), List.mem_of_getElem? (i := 1267) (by decide +kernel)⟩
theorem lw_p77 : lw_okq (⟨"PoundVotesModel", "worthOf", "(III)J"⟩, 34) := ⟨⟨by decide +kernel, by decide +kernel⟩, List.mem_of_getElem? (i := 864) (by decide +kernel), List.mem_of_getElem? (i := 1275) (by decide +kernel), List.mem_of_getElem? (i := 1276) (by decide +kernel)⟩
theorem lw_p78 : lw_okq (⟨"PoundVotesModel", "finds", "(I)Z"⟩, 34) := ⟨⟨by decide +kernel, by decide +kernel⟩, List.mem_of_getElem? (i := 864) (by decide +kernel), List.mem_of_getElem? (i := 1279) (by decide +kernel), List.mem_of_getElem? (i := 1280) (by decide +kernel)⟩
theorem lw_p79 : lw_okq (⟨"PoundVotesModel", "joins", "(IIJJ)V"⟩, 34) := ⟨⟨by decide +kernel, by decide +kernel⟩, List.mem_of_getElem? (i := 864) (by decide +kernel), List.mem_of_getElem? (i := 1286) (by decide +kernel), List.mem_of_getElem? (i := 1287) (by decide +kernel)⟩
def lw_privs_5 : List (MethodName × Nat) := [(⟨"PoundVotesModel", "worstOf", "(I)I"⟩, 34), (⟨"PoundVotesModel", "restOf", "(I)I"⟩, 34), (⟨"PoundVotesModel", "chooses", "()V"⟩, 34), (⟨"PoundVotesModel", "isRow", "(I)Z"⟩, 34), (⟨"PoundVotesModel", "six", "()I"⟩, 34), (⟨"PoundVotesModel", "isRest", "()Z"⟩, 34), (⟨"PoundVotesModel", "mostTold", "()I"⟩, 34), (⟨"PoundVotesModel", "restsNow", "()I"⟩, 34), (⟨"PoundVotesModel", "findWish", "(I)V"⟩, 34), (⟨"PoundVotesModel", "isElectedBy", "(II)Z"⟩, 34), (⟨"PoundVotesModel", "gainBy", "(IIII)I"⟩, 34), (⟨"PoundVotesModel", "hedgeOf", "(I)I"⟩, 34), (⟨"PoundVotesModel", "isHedged", "(IIII)Z"⟩, 34), (⟨"PoundVotesModel", "worthOf", "(III)J"⟩, 34), (⟨"PoundVotesModel", "finds", "(I)Z"⟩, 34), (⟨"PoundVotesModel", "joins", "(IIJJ)V"⟩, 34)]
theorem lw_r5 : ∀ q ∈ lw_privs_5, lw_okq q := List.forall_mem_cons.mpr ⟨lw_p64, List.forall_mem_cons.mpr ⟨lw_p65, List.forall_mem_cons.mpr ⟨lw_p66, List.forall_mem_cons.mpr ⟨lw_p67, List.forall_mem_cons.mpr ⟨lw_p68, List.forall_mem_cons.mpr ⟨lw_p69, List.forall_mem_cons.mpr ⟨lw_p70, List.forall_mem_cons.mpr ⟨lw_p71, List.forall_mem_cons.mpr ⟨lw_p72, List.forall_mem_cons.mpr ⟨lw_p73, List.forall_mem_cons.mpr ⟨lw_p74, List.forall_mem_cons.mpr ⟨lw_p75, List.forall_mem_cons.mpr ⟨lw_p76, List.forall_mem_cons.mpr ⟨lw_p77, List.forall_mem_cons.mpr ⟨lw_p78, List.forall_mem_cons.mpr ⟨lw_p79, fun _ h => absurd h List.not_mem_nil⟩⟩⟩⟩⟩⟩⟩⟩⟩⟩⟩⟩⟩⟩⟩⟩
theorem lw_p80 : lw_okq (⟨"PoundVotesModel", "dropNow", "()I"⟩, 34) := ⟨⟨by decide +kernel, by decide +kernel⟩, List.mem_of_getElem? (i := 864) (by decide +kernel), List.mem_of_getElem? (i := 1305) (by decide +kernel), List.mem_of_getElem? (i := 1306) (by decide +kernel)⟩
theorem lw_p81 : lw_okq (⟨"PoundVotesModel", "findRound", "()V"⟩, 34) := ⟨⟨by decide +kernel, by decide +kernel⟩, List.mem_of_getElem? (i := 864) (by decide +kernel), List.mem_of_getElem? (i := 1321) (by decide +kernel), List.mem_of_getElem? (i := 1322) (by decide +kernel)⟩
theorem lw_p82 : lw_okq (⟨"PoundVotesModel", "tellsRound", "(I)I"⟩, 34) := ⟨⟨by decide +kernel, by decide +kernel⟩, List.mem_of_getElem? (i := 864) (by decide +kernel), List.mem_of_getElem? (i := 1331) (by decide +kernel), List.mem_of_getElem? (i := 1332) (by decide +kernel)⟩
theorem lw_p83 : lw_okq (⟨"PoundVotesModel", "yearsNow", "()I"⟩, 34) := ⟨⟨by decide +kernel, by decide +kernel⟩, List.mem_of_getElem? (i := 864) (by decide +kernel), List.mem_of_getElem? (i := 1343) (by decide +kernel), List.mem_of_getElem? (i := 1344) (by decide +kernel)⟩
def lw_privs_6 : List (MethodName × Nat) := [(⟨"PoundVotesModel", "dropNow", "()I"⟩, 34), (⟨"PoundVotesModel", "findRound", "()V"⟩, 34), (⟨"PoundVotesModel", "tellsRound", "(I)I"⟩, 34), (⟨"PoundVotesModel", "yearsNow", "()I"⟩, 34)]
theorem lw_r6 : ∀ q ∈ lw_privs_6, lw_okq q := List.forall_mem_cons.mpr ⟨lw_p80, List.forall_mem_cons.mpr ⟨lw_p81, List.forall_mem_cons.mpr ⟨lw_p82, List.forall_mem_cons.mpr ⟨lw_p83, fun _ h => absurd h List.not_mem_nil⟩⟩⟩⟩
def lw_privs : List (MethodName × Nat) := lw_privs_1 ++ (lw_privs_2 ++ (lw_privs_3 ++ (lw_privs_4 ++ (lw_privs_5 ++ (lw_privs_6)))))
def lw_tbl : List Cond := k2_sels lw_privs ++ tables_1
theorem lw_privs_ok : ∀ q ∈ lw_privs, lw_okq q := by
  show ∀ q ∈ lw_privs_1 ++ (lw_privs_2 ++ (lw_privs_3 ++ (lw_privs_4 ++ (lw_privs_5 ++ (lw_privs_6))))), lw_okq q
  exact List.forall_mem_append.mpr ⟨lw_r1, List.forall_mem_append.mpr ⟨lw_r2, List.forall_mem_append.mpr ⟨lw_r3, List.forall_mem_append.mpr ⟨lw_r4, List.forall_mem_append.mpr ⟨lw_r5, lw_r6⟩⟩⟩⟩⟩
end
section
def RX0 : String := "PoundVotes$Ballot"
def TX0 : u_T := fun k => match k with
  | 0 => ("PoundVotes$Ballot", "roll", "LPoundVotes$Roll;", true)
  | 1 => ("PoundVotes$Ballot", "gains", "[I", true)
  | 2 => ("PoundVotes$Ballot", "tally", "[I", true)
  | 3 => ("PoundVotes$Ballot", "unspent", "[I", true)
  | 4 => ("PoundVotes$Ballot", "playerGains", "[[I", true)
  | 5 => ("PoundVotes$Ballot", "contentBits", "[I", true)
  | 6 => ("PoundVotes$Ballot", "support", "[I", true)
  | 7 => ("PoundVotes$Ballot", "winVersions", "[I", true)
  | 8 => ("PoundVotes$Ballot", "winTickets", "[I", true)
  | 9 => ("PoundVotes$Ballot", "winUnlikeness", "[I", true)
  | 10 => ("PoundVotes$Ballot", "odds", "[[I", true)
  | 11 => ("PoundVotes$Ballot", "restVersion", "I", false)
  | _ => ("PoundVotes$Ballot", "restCount", "I", false)
def tyX0 : Nat → FieldType := fun k => match k with
  | 0 => .object "PoundVotes$Roll"
  | 1 => .array .int
  | 2 => .array .int
  | 3 => .array .int
  | 4 => .array (.array .int)
  | 5 => .array .int
  | 6 => .array .int
  | 7 => .array .int
  | 8 => .array .int
  | 9 => .array .int
  | 10 => .array (.array .int)
  | 11 => .int
  | _ => .int
abbrev wsX00 : List Cond := u_ws RX0 TX0 13
theorem nmX0 : ∀ a, a < 13 → ∀ b, b < 13 → a ≠ b → (TX0 a).2.1 ≠ (TX0 b).2.1 := by decide +kernel
theorem tyX0_ok : ∀ k, k < 13 → parseFieldDescriptor (TX0 k).2.2.1 = some (tyX0 k) := by decide +kernel
abbrev cX0_init : ByteArray := prog_2_method_1_code
def yX0_init : MethodName := ⟨RX0, "<init>", "(LPoundVotes$Roll;)V"⟩
abbrev cX0_players : ByteArray := prog_2_method_2_code
def yX0_players : MethodName := ⟨RX0, "players", "()I"⟩
abbrev cX0_toldParty : ByteArray := prog_2_method_3_code
def yX0_toldParty : MethodName := ⟨RX0, "toldParty", "(II)I"⟩
abbrev cX0_isTold : ByteArray := prog_2_method_4_code
def yX0_isTold : MethodName := ⟨RX0, "isTold", "(I)Z"⟩
abbrev cX0_isRest : ByteArray := prog_2_method_5_code
def yX0_isRest : MethodName := ⟨RX0, "isRest", "(I)Z"⟩
abbrev cX0_restfulRows : ByteArray := prog_2_method_6_code
def yX0_restfulRows : MethodName := ⟨RX0, "restfulRows", "()I"⟩
abbrev cX0_prepare : ByteArray := prog_2_method_7_code
def yX0_prepare : MethodName := ⟨RX0, "prepare", "()V"⟩
abbrev cX0_isContent : ByteArray := prog_2_method_8_code
def yX0_isContent : MethodName := ⟨RX0, "isContent", "(II)Z"⟩
abbrev cX0_restsOfSpread : ByteArray := prog_2_method_9_code
def yX0_restsOfSpread : MethodName := ⟨RX0, "restsOfSpread", "(II)I"⟩
abbrev cX0_restsOfSums : ByteArray := prog_2_method_10_code
def yX0_restsOfSums : MethodName := ⟨RX0, "restsOfSums", "()I"⟩
abbrev cX0_rowsFrom : ByteArray := prog_2_method_11_code
def yX0_rowsFrom : MethodName := ⟨RX0, "rowsFrom", "(I)I"⟩
abbrev cX0_winningTicket : ByteArray := prog_2_method_12_code
def yX0_winningTicket : MethodName := ⟨RX0, "winningTicket", "(I)I"⟩
abbrev cX0_winningUnlikeness : ByteArray := prog_2_method_13_code
def yX0_winningUnlikeness : MethodName := ⟨RX0, "winningUnlikeness", "(I)I"⟩
abbrev cX0_findWin : ByteArray := prog_2_method_14_code
def yX0_findWin : MethodName := ⟨RX0, "findWin", "(I)V"⟩
abbrev cX0_fillSupport : ByteArray := prog_2_method_15_code
def yX0_fillSupport : MethodName := ⟨RX0, "fillSupport", "(I)V"⟩
abbrev cX0_supportPlace : ByteArray := prog_2_method_16_code
def yX0_supportPlace : MethodName := ⟨RX0, "supportPlace", "(II)I"⟩
abbrev cX0_tryTicket : ByteArray := prog_2_method_17_code
def yX0_tryTicket : MethodName := ⟨RX0, "tryTicket", "(IIII)V"⟩
abbrev cX0_evenHolding : ByteArray := prog_2_method_18_code
def yX0_evenHolding : MethodName := ⟨RX0, "evenHolding", "(I)I"⟩
abbrev cX0_fillOdds : ByteArray := prog_2_method_19_code
def yX0_fillOdds : MethodName := ⟨RX0, "fillOdds", "(I)V"⟩
abbrev cX0_isEven : ByteArray := prog_2_method_20_code
def yX0_isEven : MethodName := ⟨RX0, "isEven", "(III)Z"⟩
def RX1 : String := "PoundVotes$Poll"
def TX1 : u_T := fun k => match k with
  | 0 => ("PoundVotes$Poll", "roll", "LPoundVotes$Roll;", true)
  | 1 => ("PoundVotes$Poll", "law", "I", true)
  | 2 => ("PoundVotes$Poll", "winners", "[[I", true)
  | 3 => ("PoundVotes$Poll", "greats", "[[I", true)
  | 4 => ("PoundVotes$Poll", "tallies", "[[I", true)
  | 5 => ("PoundVotes$Poll", "gains", "[I", true)
  | _ => ("PoundVotes$Poll", "version", "I", false)
def tyX1 : Nat → FieldType := fun k => match k with
  | 0 => .object "PoundVotes$Roll"
  | 1 => .int
  | 2 => .array (.array .int)
  | 3 => .array (.array .int)
  | 4 => .array (.array .int)
  | 5 => .array .int
  | _ => .int
abbrev wsX10 : List Cond := u_ws RX1 TX1 7
theorem nmX1 : ∀ a, a < 7 → ∀ b, b < 7 → a ≠ b → (TX1 a).2.1 ≠ (TX1 b).2.1 := by decide +kernel
theorem tyX1_ok : ∀ k, k < 7 → parseFieldDescriptor (TX1 k).2.2.1 = some (tyX1 k) := by decide +kernel
abbrev cX1_init : ByteArray := prog_3_method_1_code
def yX1_init : MethodName := ⟨RX1, "<init>", "(LPoundVotes$Roll;I)V"⟩
abbrev cX1_winner : ByteArray := prog_3_method_2_code
def yX1_winner : MethodName := ⟨RX1, "winner", "(II)I"⟩
abbrev cX1_greatness : ByteArray := prog_3_method_3_code
def yX1_greatness : MethodName := ⟨RX1, "greatness", "(II)I"⟩
abbrev cX1_tally : ByteArray := prog_3_method_4_code
def yX1_tally : MethodName := ⟨RX1, "tally", "(III)I"⟩
abbrev cX1_update : ByteArray := prog_3_method_5_code
def yX1_update : MethodName := ⟨RX1, "update", "()V"⟩
abbrev cX1_leaveOpen : ByteArray := prog_3_method_6_code
def yX1_leaveOpen : MethodName := ⟨RX1, "leaveOpen", "(II)V"⟩
abbrev cX1_hold : ByteArray := prog_3_method_7_code
def yX1_hold : MethodName := ⟨RX1, "hold", "(II)V"⟩
abbrev cX1_approve : ByteArray := prog_3_method_8_code
def yX1_approve : MethodName := ⟨RX1, "approve", "([II)V"⟩
abbrev cX1_repeatFirst : ByteArray := prog_3_method_9_code
def yX1_repeatFirst : MethodName := ⟨RX1, "repeatFirst", "(II)V"⟩
def RX2 : String := "PoundVotes$Roll"
def TX2 : u_T := fun k => match k with
  | 0 => ("PoundVotes$Roll", "parties", "I", false)
  | 1 => ("PoundVotes$Roll", "voters", "I", false)
  | 2 => ("PoundVotes$Roll", "version", "I", false)
  | 3 => ("PoundVotes$Roll", "figures", "[[I", true)
  | 4 => ("PoundVotes$Roll", "unitsOfVoters", "[I", true)
  | _ => ("PoundVotes$Roll", "owedToVoters", "[I", true)
def tyX2 : Nat → FieldType := fun k => match k with
  | 0 => .int
  | 1 => .int
  | 2 => .int
  | 3 => .array (.array .int)
  | 4 => .array .int
  | _ => .array .int
abbrev wsX20 : List Cond := u_ws RX2 TX2 6
theorem nmX2 : ∀ a, a < 6 → ∀ b, b < 6 → a ≠ b → (TX2 a).2.1 ≠ (TX2 b).2.1 := by decide +kernel
theorem tyX2_ok : ∀ k, k < 6 → parseFieldDescriptor (TX2 k).2.2.1 = some (tyX2 k) := by decide +kernel
abbrev cX2_init : ByteArray := prog_4_method_1_code
def yX2_init : MethodName := ⟨RX2, "<init>", "()V"⟩
abbrev cX2_take : ByteArray := prog_4_method_2_code
def yX2_take : MethodName := ⟨RX2, "take", "(LPoundVotes$Text;LPoundVotes$Text;LPoundVotes$Rows;)V"⟩
abbrev cX2_carry : ByteArray := prog_4_method_3_code
def yX2_carry : MethodName := ⟨RX2, "carry", "(ILPoundVotes$Text;)V"⟩
abbrev cX2_alter : ByteArray := prog_4_method_4_code
def yX2_alter : MethodName := ⟨RX2, "alter", "(ILPoundVotes$Rows;)V"⟩
abbrev cX2_figure : ByteArray := prog_4_method_5_code
def yX2_figure : MethodName := ⟨RX2, "figure", "(III)I"⟩
abbrev cX2_unitOf : ByteArray := prog_4_method_6_code
def yX2_unitOf : MethodName := ⟨RX2, "unitOf", "(I)I"⟩
abbrev cX2_owed : ByteArray := prog_4_method_7_code
def yX2_owed : MethodName := ⟨RX2, "owed", "(I)I"⟩
abbrev cX2_gain : ByteArray := prog_4_method_8_code
def yX2_gain : MethodName := ⟨RX2, "gain", "(III)I"⟩
abbrev cX2_fillGains : ByteArray := prog_4_method_9_code
def yX2_fillGains : MethodName := ⟨RX2, "fillGains", "(II[I)V"⟩
def RX3 : String := "PoundVotes$Rows"
def TX3 : u_T := fun k => match k with
  | 0 => ("PoundVotes$Rows", "rows", "[[I", true)
  | _ => ("PoundVotes$Rows", "size", "I", false)
def tyX3 : Nat → FieldType := fun k => match k with
  | 0 => .array (.array .int)
  | _ => .int
abbrev wsX30 : List Cond := u_ws RX3 TX3 2
theorem nmX3 : ∀ a, a < 2 → ∀ b, b < 2 → a ≠ b → (TX3 a).2.1 ≠ (TX3 b).2.1 := by decide +kernel
theorem tyX3_ok : ∀ k, k < 2 → parseFieldDescriptor (TX3 k).2.2.1 = some (tyX3 k) := by decide +kernel
abbrev cX3_init : ByteArray := prog_5_method_1_code
def yX3_init : MethodName := ⟨RX3, "<init>", "(II)V"⟩
abbrev cX3_isFull : ByteArray := prog_5_method_2_code
def yX3_isFull : MethodName := ⟨RX3, "isFull", "()Z"⟩
abbrev cX3_next : ByteArray := prog_5_method_3_code
def yX3_next : MethodName := ⟨RX3, "next", "()[I"⟩
def RX4 : String := "PoundVotes$Sheets"
def TX4 : u_T := fun k => match k with
  | 0 => ("PoundVotes$Sheets", "forms", "[I", true)
  | 1 => ("PoundVotes$Sheets", "sizes", "[I", true)
  | _ => ("PoundVotes$Sheets", "items", "[[I", true)
def tyX4 : Nat → FieldType := fun k => match k with
  | 0 => .array .int
  | 1 => .array .int
  | _ => .array (.array .int)
abbrev wsX40 : List Cond := u_ws RX4 TX4 3
theorem nmX4 : ∀ a, a < 3 → ∀ b, b < 3 → a ≠ b → (TX4 a).2.1 ≠ (TX4 b).2.1 := by decide +kernel
theorem tyX4_ok : ∀ k, k < 3 → parseFieldDescriptor (TX4 k).2.2.1 = some (tyX4 k) := by decide +kernel
abbrev cX4_init : ByteArray := prog_6_method_1_code
def yX4_init : MethodName := ⟨RX4, "<init>", "()V"⟩
abbrev cX4_isSheet : ByteArray := prog_6_method_2_code
def yX4_isSheet : MethodName := ⟨RX4, "isSheet", "(I)Z"⟩
abbrev cX4_isForm : ByteArray := prog_6_method_3_code
def yX4_isForm : MethodName := ⟨RX4, "isForm", "(I)Z"⟩
abbrev cX4_isLost : ByteArray := prog_6_method_4_code
def yX4_isLost : MethodName := ⟨RX4, "isLost", "(I)Z"⟩
abbrev cX4_begin : ByteArray := prog_6_method_5_code
def yX4_begin : MethodName := ⟨RX4, "begin", "(III)V"⟩
abbrev cX4_forget : ByteArray := prog_6_method_6_code
def yX4_forget : MethodName := ⟨RX4, "forget", "(I)V"⟩
abbrev cX4_accessFinding : ByteArray := prog_6_method_7_code
def yX4_accessFinding : MethodName := ⟨RX4, "accessFinding", "(III)I"⟩
abbrev cX4_hasItems : ByteArray := prog_6_method_8_code
def yX4_hasItems : MethodName := ⟨RX4, "hasItems", "(III)Z"⟩
abbrev cX4_store : ByteArray := prog_6_method_9_code
def yX4_store : MethodName := ⟨RX4, "store", "(III)V"⟩
def RX5 : String := "PoundVotes$Text"
def TX5 : u_T := fun k => match k with
  | 0 => ("PoundVotes$Text", "kind", "I", true)
  | 1 => ("PoundVotes$Text", "bytes", "[I", true)
  | _ => ("PoundVotes$Text", "size", "I", false)
def tyX5 : Nat → FieldType := fun k => match k with
  | 0 => .int
  | 1 => .array .int
  | _ => .int
abbrev wsX50 : List Cond := u_ws RX5 TX5 3
theorem nmX5 : ∀ a, a < 3 → ∀ b, b < 3 → a ≠ b → (TX5 a).2.1 ≠ (TX5 b).2.1 := by decide +kernel
theorem tyX5_ok : ∀ k, k < 3 → parseFieldDescriptor (TX5 k).2.2.1 = some (tyX5 k) := by decide +kernel
abbrev cX5_init : ByteArray := prog_7_method_1_code
def yX5_init : MethodName := ⟨RX5, "<init>", "(II)V"⟩
abbrev cX5_isFull : ByteArray := prog_7_method_2_code
def yX5_isFull : MethodName := ⟨RX5, "isFull", "()Z"⟩
abbrev cX5_append : ByteArray := prog_7_method_3_code
def yX5_append : MethodName := ⟨RX5, "append", "(I)V"⟩
abbrev cX5_faultPlace : ByteArray := prog_7_method_4_code
def yX5_faultPlace : MethodName := ⟨RX5, "faultPlace", "()I"⟩
abbrev cX5_items : ByteArray := prog_7_method_5_code
def yX5_items : MethodName := ⟨RX5, "items", "()I"⟩
abbrev cX5_byteOf : ByteArray := prog_7_method_6_code
def yX5_byteOf : MethodName := ⟨RX5, "byteOf", "(II)I"⟩
abbrev cX5_fits : ByteArray := prog_7_method_7_code
def yX5_fits : MethodName := ⟨RX5, "fits", "(I)Z"⟩
def RX6 : String := "PoundVotes$Towns"
def TX6 : u_T := fun k => match k with
  | 0 => ("PoundVotes$Towns", "bestAbove", "I", false)
  | 1 => ("PoundVotes$Towns", "bestBelow", "I", false)
  | 2 => ("PoundVotes$Towns", "bestLength", "I", false)
  | 3 => ("PoundVotes$Towns", "best", "[I", true)
  | 4 => ("PoundVotes$Towns", "way", "[I", true)
  | 5 => ("PoundVotes$Towns", "above", "[I", true)
  | _ => ("PoundVotes$Towns", "below", "[I", true)
def tyX6 : Nat → FieldType := fun k => match k with
  | 0 => .int
  | 1 => .int
  | 2 => .int
  | 3 => .array .int
  | 4 => .array .int
  | 5 => .array .int
  | _ => .array .int
abbrev wsX60 : List Cond := u_ws RX6 TX6 7
theorem nmX6 : ∀ a, a < 7 → ∀ b, b < 7 → a ≠ b → (TX6 a).2.1 ≠ (TX6 b).2.1 := by decide +kernel
theorem tyX6_ok : ∀ k, k < 7 → parseFieldDescriptor (TX6 k).2.2.1 = some (tyX6 k) := by decide +kernel
abbrev cX6_init : ByteArray := prog_8_method_1_code
def yX6_init : MethodName := ⟨RX6, "<init>", "()V"⟩
abbrev cX6_isTown : ByteArray := prog_8_method_2_code
def yX6_isTown : MethodName := ⟨RX6, "isTown", "(I)Z"⟩
abbrev cX6_replaceRate : ByteArray := prog_8_method_3_code
def yX6_replaceRate : MethodName := ⟨RX6, "replaceRate", "(IIII)I"⟩
abbrev cX6_bestTown : ByteArray := prog_8_method_4_code
def yX6_bestTown : MethodName := ⟨RX6, "bestTown", "(I)I"⟩
abbrev cX6_findRound : ByteArray := prog_8_method_5_code
def yX6_findRound : MethodName := ⟨RX6, "findRound", "()V"⟩
abbrev cX6_goOn : ByteArray := prog_8_method_6_code
def yX6_goOn : MethodName := ⟨RX6, "goOn", "(IIII)V"⟩
abbrev cX6_isOnWay : ByteArray := prog_8_method_7_code
def yX6_isOnWay : MethodName := ⟨RX6, "isOnWay", "(II)Z"⟩
abbrev cX6_comeBack : ByteArray := prog_8_method_8_code
def yX6_comeBack : MethodName := ⟨RX6, "comeBack", "(III)V"⟩
def RX7 : String := "PoundVotes$Worths"
def TX7 : u_T := fun k => match k with
  | 0 => ("PoundVotes$Worths", "groups", "[I", true)
  | 1 => ("PoundVotes$Worths", "above", "[J", true)
  | _ => ("PoundVotes$Worths", "below", "[J", true)
def tyX7 : Nat → FieldType := fun k => match k with
  | 0 => .array .int
  | 1 => .array .long
  | _ => .array .long
abbrev wsX70 : List Cond := u_ws RX7 TX7 3
theorem nmX7 : ∀ a, a < 3 → ∀ b, b < 3 → a ≠ b → (TX7 a).2.1 ≠ (TX7 b).2.1 := by decide +kernel
theorem tyX7_ok : ∀ k, k < 3 → parseFieldDescriptor (TX7 k).2.2.1 = some (tyX7 k) := by decide +kernel
abbrev cX7_init : ByteArray := prog_9_method_1_code
def yX7_init : MethodName := ⟨RX7, "<init>", "()V"⟩
abbrev cX7_isKind : ByteArray := prog_9_method_2_code
def yX7_isKind : MethodName := ⟨RX7, "isKind", "(I)Z"⟩
abbrev cX7_firstClash : ByteArray := prog_9_method_3_code
def yX7_firstClash : MethodName := ⟨RX7, "firstClash", "(LPoundVotes$Text;)I"⟩
abbrev cX7_fewestDropped : ByteArray := prog_9_method_4_code
def yX7_fewestDropped : MethodName := ⟨RX7, "fewestDropped", "(LPoundVotes$Text;)I"⟩
abbrev cX7_agreesWithout : ByteArray := prog_9_method_5_code
def yX7_agreesWithout : MethodName := ⟨RX7, "agreesWithout", "(LPoundVotes$Text;II)Z"⟩
abbrev cX7_startAnew : ByteArray := prog_9_method_6_code
def yX7_startAnew : MethodName := ⟨RX7, "startAnew", "()V"⟩
abbrev cX7_takes : ByteArray := prog_9_method_7_code
def yX7_takes : MethodName := ⟨RX7, "takes", "(LPoundVotes$Text;I)Z"⟩
abbrev cX7_join : ByteArray := prog_9_method_8_code
def yX7_join : MethodName := ⟨RX7, "join", "(IIJ)V"⟩
abbrev cX7_isTold : ByteArray := prog_9_method_9_code
def yX7_isTold : MethodName := ⟨RX7, "isTold", "(II)Z"⟩
abbrev cX7_aboveOf : ByteArray := prog_9_method_10_code
def yX7_aboveOf : MethodName := ⟨RX7, "aboveOf", "(II)J"⟩
def RX8 : String := "PoundVotes"
def TX8 : u_T := fun k => match k with
  | 0 => ("PoundVotes", "tickets", "LPoundVotes$Text;", true)
  | 1 => ("PoundVotes", "voters", "LPoundVotes$Text;", true)
  | 2 => ("PoundVotes", "ratios", "LPoundVotes$Text;", true)
  | 3 => ("PoundVotes", "changes", "LPoundVotes$Rows;", true)
  | 4 => ("PoundVotes", "contracts", "LPoundVotes$Rows;", true)
  | 5 => ("PoundVotes", "bills", "LPoundVotes$Rows;", true)
  | 6 => ("PoundVotes", "purses", "[I", true)
  | 7 => ("PoundVotes", "held", "[I", true)
  | 8 => ("PoundVotes", "roll", "LPoundVotes$Roll;", true)
  | 9 => ("PoundVotes", "wholePoll", "LPoundVotes$Poll;", true)
  | 10 => ("PoundVotes", "unitPoll", "LPoundVotes$Poll;", true)
  | 11 => ("PoundVotes", "approvalPoll", "LPoundVotes$Poll;", true)
  | 12 => ("PoundVotes", "ballot", "LPoundVotes$Ballot;", true)
  | 13 => ("PoundVotes", "worths", "LPoundVotes$Worths;", true)
  | 14 => ("PoundVotes", "towns", "LPoundVotes$Towns;", true)
  | 15 => ("PoundVotes", "sheets", "LPoundVotes$Sheets;", true)
  | 16 => ("PoundVotes", "law", "I", false)
  | 17 => ("PoundVotes", "day", "I", false)
  | 18 => ("PoundVotes", "finding", "I", false)
  | _ => ("PoundVotes", "stale", "Z", false)
def tyX8 : Nat → FieldType := fun k => match k with
  | 0 => .object "PoundVotes$Text"
  | 1 => .object "PoundVotes$Text"
  | 2 => .object "PoundVotes$Text"
  | 3 => .object "PoundVotes$Rows"
  | 4 => .object "PoundVotes$Rows"
  | 5 => .object "PoundVotes$Rows"
  | 6 => .array .int
  | 7 => .array .int
  | 8 => .object "PoundVotes$Roll"
  | 9 => .object "PoundVotes$Poll"
  | 10 => .object "PoundVotes$Poll"
  | 11 => .object "PoundVotes$Poll"
  | 12 => .object "PoundVotes$Ballot"
  | 13 => .object "PoundVotes$Worths"
  | 14 => .object "PoundVotes$Towns"
  | 15 => .object "PoundVotes$Sheets"
  | 16 => .int
  | 17 => .int
  | 18 => .int
  | _ => .boolean
abbrev wsX80 : List Cond := u_ws RX8 TX8 20
theorem nmX8 : ∀ a, a < 20 → ∀ b, b < 20 → a ≠ b → (TX8 a).2.1 ≠ (TX8 b).2.1 := by decide +kernel
theorem tyX8_ok : ∀ k, k < 20 → parseFieldDescriptor (TX8 k).2.2.1 = some (tyX8 k) := by decide +kernel
abbrev cX8_init : ByteArray := prog_1_method_1_code
def yX8_init : MethodName := ⟨RX8, "<init>", "()V"⟩
abbrev cX8_type : ByteArray := prog_1_method_2_code
def yX8_type : MethodName := ⟨RX8, "type", "(II)I"⟩
abbrev cX8_wipe : ByteArray := prog_1_method_3_code
def yX8_wipe : MethodName := ⟨RX8, "wipe", "(I)I"⟩
abbrev cX8_undo : ByteArray := prog_1_method_4_code
def yX8_undo : MethodName := ⟨RX8, "undo", "(I)I"⟩
abbrev cX8_fault : ByteArray := prog_1_method_5_code
def yX8_fault : MethodName := ⟨RX8, "fault", "(I)I"⟩
abbrev cX8_ticket : ByteArray := prog_1_method_6_code
def yX8_ticket : MethodName := ⟨RX8, "ticket", "(III)I"⟩
abbrev cX8_voter : ByteArray := prog_1_method_7_code
def yX8_voter : MethodName := ⟨RX8, "voter", "(II)I"⟩
abbrev cX8_set : ByteArray := prog_1_method_8_code
def yX8_set : MethodName := ⟨RX8, "set", "(II)I"⟩
abbrev cX8_purse : ByteArray := prog_1_method_9_code
def yX8_purse : MethodName := ⟨RX8, "purse", "(II)I"⟩
abbrev cX8_change : ByteArray := prog_1_method_10_code
def yX8_change : MethodName := ⟨RX8, "change", "(IIII)I"⟩
abbrev cX8_back : ByteArray := prog_1_method_11_code
def yX8_back : MethodName := ⟨RX8, "back", "(I)I"⟩
abbrev cX8_elected : ByteArray := prog_1_method_12_code
def yX8_elected : MethodName := ⟨RX8, "elected", "(II)I"⟩
abbrev cX8_great : ByteArray := prog_1_method_13_code
def yX8_great : MethodName := ⟨RX8, "great", "(II)I"⟩
abbrev cX8_votes : ByteArray := prog_1_method_14_code
def yX8_votes : MethodName := ⟨RX8, "votes", "(III)I"⟩
abbrev cX8_split : ByteArray := prog_1_method_15_code
def yX8_split : MethodName := ⟨RX8, "split", "()I"⟩
abbrev cX8_contract : ByteArray := prog_1_method_16_code
def yX8_contract : MethodName := ⟨RX8, "contract", "(IIIIII)I"⟩
abbrev cX8_money : ByteArray := prog_1_method_17_code
def yX8_money : MethodName := ⟨RX8, "money", "(II)I"⟩
abbrev cX8_ruined : ByteArray := prog_1_method_18_code
def yX8_ruined : MethodName := ⟨RX8, "ruined", "(I)I"⟩
abbrev cX8_worst : ByteArray := prog_1_method_19_code
def yX8_worst : MethodName := ⟨RX8, "worst", "(I)I"⟩
abbrev cX8_rest : ByteArray := prog_1_method_20_code
def yX8_rest : MethodName := ⟨RX8, "rest", "(I)I"⟩
abbrev cX8_rests : ByteArray := prog_1_method_21_code
def yX8_rests : MethodName := ⟨RX8, "rests", "()I"⟩
abbrev cX8_wins : ByteArray := prog_1_method_22_code
def yX8_wins : MethodName := ⟨RX8, "wins", "(II)I"⟩
abbrev cX8_hedge : ByteArray := prog_1_method_23_code
def yX8_hedge : MethodName := ⟨RX8, "hedge", "(I)I"⟩
abbrev cX8_worth : ByteArray := prog_1_method_24_code
def yX8_worth : MethodName := ⟨RX8, "worth", "(III)J"⟩
abbrev cX8_clash : ByteArray := prog_1_method_25_code
def yX8_clash : MethodName := ⟨RX8, "clash", "()I"⟩
abbrev cX8_drop : ByteArray := prog_1_method_26_code
def yX8_drop : MethodName := ⟨RX8, "drop", "()I"⟩
abbrev cX8_rate : ByteArray := prog_1_method_27_code
def yX8_rate : MethodName := ⟨RX8, "rate", "(IIII)I"⟩
abbrev cX8_round : ByteArray := prog_1_method_28_code
def yX8_round : MethodName := ⟨RX8, "round", "(I)I"⟩
abbrev cX8_bill : ByteArray := prog_1_method_29_code
def yX8_bill : MethodName := ⟨RX8, "bill", "(III)I"⟩
abbrev cX8_years : ByteArray := prog_1_method_30_code
def yX8_years : MethodName := ⟨RX8, "years", "()I"⟩
abbrev cX8_sheet : ByteArray := prog_1_method_31_code
def yX8_sheet : MethodName := ⟨RX8, "sheet", "(III)I"⟩
abbrev cX8_lose : ByteArray := prog_1_method_32_code
def yX8_lose : MethodName := ⟨RX8, "lose", "(I)I"⟩
abbrev cX8_lay : ByteArray := prog_1_method_33_code
def yX8_lay : MethodName := ⟨RX8, "lay", "(IIII)I"⟩
abbrev cX8_get : ByteArray := prog_1_method_34_code
def yX8_get : MethodName := ⟨RX8, "get", "(III)I"⟩
abbrev cX8_copy : ByteArray := prog_1_method_35_code
def yX8_copy : MethodName := ⟨RX8, "copy", "(IIIII)I"⟩
abbrev cX8_read : ByteArray := prog_1_method_36_code
def yX8_read : MethodName := ⟨RX8, "read", "(I)I"⟩
abbrev cX8_write : ByteArray := prog_1_method_37_code
def yX8_write : MethodName := ⟨RX8, "write", "(II)I"⟩
abbrev cX8_count : ByteArray := prog_1_method_38_code
def yX8_count : MethodName := ⟨RX8, "count", "(I)I"⟩
abbrev cX8_digest : ByteArray := prog_1_method_39_code
def yX8_digest : MethodName := ⟨RX8, "digest", "()J"⟩
abbrev cX8_mixYears : ByteArray := prog_1_method_40_code
def yX8_mixYears : MethodName := ⟨RX8, "mixYears", "(J)J"⟩
abbrev cX8_mixPeople : ByteArray := prog_1_method_41_code
def yX8_mixPeople : MethodName := ⟨RX8, "mixPeople", "(J)J"⟩
abbrev cX8_mixVotes : ByteArray := prog_1_method_42_code
def yX8_mixVotes : MethodName := ⟨RX8, "mixVotes", "(J)J"⟩
abbrev cX8_mixRatios : ByteArray := prog_1_method_43_code
def yX8_mixRatios : MethodName := ⟨RX8, "mixRatios", "(J)J"⟩
abbrev cX8_mix : ByteArray := prog_1_method_44_code
def yX8_mix : MethodName := ⟨RX8, "mix", "(JJ)J"⟩
abbrev cX8_isWithin : ByteArray := prog_1_method_45_code
def yX8_isWithin : MethodName := ⟨RX8, "isWithin", "(III)Z"⟩
abbrev cX8_isText : ByteArray := prog_1_method_46_code
def yX8_isText : MethodName := ⟨RX8, "isText", "(I)Z"⟩
abbrev cX8_isYear : ByteArray := prog_1_method_47_code
def yX8_isYear : MethodName := ⟨RX8, "isYear", "(I)Z"⟩
abbrev cX8_isUnit : ByteArray := prog_1_method_48_code
def yX8_isUnit : MethodName := ⟨RX8, "isUnit", "(I)Z"⟩
abbrev cX8_isPerson : ByteArray := prog_1_method_49_code
def yX8_isPerson : MethodName := ⟨RX8, "isPerson", "(I)Z"⟩
abbrev cX8_isParty : ByteArray := prog_1_method_50_code
def yX8_isParty : MethodName := ⟨RX8, "isParty", "(I)Z"⟩
abbrev cX8_isOnRoll : ByteArray := prog_1_method_51_code
def yX8_isOnRoll : MethodName := ⟨RX8, "isOnRoll", "(I)Z"⟩
abbrev cX8_textOf : ByteArray := prog_1_method_52_code
def yX8_textOf : MethodName := ⟨RX8, "textOf", "(I)LPoundVotes$Text;"⟩
abbrev cX8_find : ByteArray := prog_1_method_53_code
def yX8_find : MethodName := ⟨RX8, "find", "(I)I"⟩
abbrev cX8_settle : ByteArray := prog_1_method_54_code
def yX8_settle : MethodName := ⟨RX8, "settle", "()V"⟩
abbrev cX8_pollBy : ByteArray := prog_1_method_55_code
def yX8_pollBy : MethodName := ⟨RX8, "pollBy", "(I)LPoundVotes$Poll;"⟩
abbrev cX8_paidBy : ByteArray := prog_1_method_56_code
def yX8_paidBy : MethodName := ⟨RX8, "paidBy", "([II)I"⟩
abbrev cX8_paid : ByteArray := prog_1_method_57_code
def yX8_paid : MethodName := ⟨RX8, "paid", "([I)I"⟩
abbrev cX8_moneyBehind : ByteArray := prog_1_method_58_code
def yX8_moneyBehind : MethodName := ⟨RX8, "moneyBehind", "(II)I"⟩
abbrev cX8_firstRuin : ByteArray := prog_1_method_59_code
def yX8_firstRuin : MethodName := ⟨RX8, "firstRuin", "()I"⟩
abbrev cX8_greatest : ByteArray := prog_1_method_60_code
def yX8_greatest : MethodName := ⟨RX8, "greatest", "([IIII)I"⟩
abbrev cX8_commonDivisor : ByteArray := prog_1_method_61_code
def yX8_commonDivisor : MethodName := ⟨RX8, "commonDivisor", "(JJ)J"⟩
def RX9 : String := "PoundVotesModel"
def TX9 : u_T := fun k => match k with
  | 0 => ("PoundVotesModel", "forms", "[I", true)
  | 1 => ("PoundVotesModel", "sizes", "[I", true)
  | 2 => ("PoundVotesModel", "items", "[I", true)
  | 3 => ("PoundVotesModel", "moved", "[I", true)
  | 4 => ("PoundVotesModel", "latest", "I", false)
  | 5 => ("PoundVotesModel", "bytes", "[I", true)
  | 6 => ("PoundVotesModel", "typed", "[I", true)
  | 7 => ("PoundVotesModel", "at", "I", false)
  | 8 => ("PoundVotesModel", "many", "[I", true)
  | 9 => ("PoundVotesModel", "told", "[I", true)
  | 10 => ("PoundVotesModel", "settings", "[I", true)
  | 11 => ("PoundVotesModel", "purses", "[I", true)
  | 12 => ("PoundVotesModel", "changes", "I", false)
  | 13 => ("PoundVotesModel", "change", "[I", true)
  | 14 => ("PoundVotesModel", "elected", "[I", true)
  | 15 => ("PoundVotesModel", "votes", "[I", true)
  | 16 => ("PoundVotesModel", "made", "[I", true)
  | 17 => ("PoundVotesModel", "contracts", "I", false)
  | 18 => ("PoundVotesModel", "contract", "[I", true)
  | 19 => ("PoundVotesModel", "has", "[I", true)
  | 20 => ("PoundVotesModel", "tally", "[I", true)
  | 21 => ("PoundVotesModel", "choices", "[I", true)
  | 22 => ("PoundVotesModel", "wish", "[I", true)
  | 23 => ("PoundVotesModel", "root", "[I", true)
  | 24 => ("PoundVotesModel", "above", "[J", true)
  | 25 => ("PoundVotesModel", "below", "[J", true)
  | 26 => ("PoundVotesModel", "firstClash", "I", false)
  | 27 => ("PoundVotesModel", "rates", "[I", true)
  | 28 => ("PoundVotesModel", "bestRow", "[I", true)
  | 29 => ("PoundVotesModel", "bestTowns", "I", false)
  | 30 => ("PoundVotesModel", "bestAbove", "I", false)
  | 31 => ("PoundVotesModel", "bestBelow", "I", false)
  | 32 => ("PoundVotesModel", "bills", "I", false)
  | _ => ("PoundVotesModel", "bill", "[I", true)
def tyX9 : Nat → FieldType := fun k => match k with
  | 0 => .array .int
  | 1 => .array .int
  | 2 => .array .int
  | 3 => .array .int
  | 4 => .int
  | 5 => .array .int
  | 6 => .array .int
  | 7 => .int
  | 8 => .array .int
  | 9 => .array .int
  | 10 => .array .int
  | 11 => .array .int
  | 12 => .int
  | 13 => .array .int
  | 14 => .array .int
  | 15 => .array .int
  | 16 => .array .int
  | 17 => .int
  | 18 => .array .int
  | 19 => .array .int
  | 20 => .array .int
  | 21 => .array .int
  | 22 => .array .int
  | 23 => .array .int
  | 24 => .array .long
  | 25 => .array .long
  | 26 => .int
  | 27 => .array .int
  | 28 => .array .int
  | 29 => .int
  | 30 => .int
  | 31 => .int
  | 32 => .int
  | _ => .array .int
abbrev wsX90 : List Cond := u_ws RX9 TX9 34
theorem nmX9 : ∀ a, a < 34 → ∀ b, b < 34 → a ≠ b → (TX9 a).2.1 ≠ (TX9 b).2.1 := by decide +kernel
theorem tyX9_ok : ∀ k, k < 34 → parseFieldDescriptor (TX9 k).2.2.1 = some (tyX9 k) := by decide +kernel
abbrev cX9_init : ByteArray := prog_11_method_1_code
def yX9_init : MethodName := ⟨RX9, "<init>", "()V"⟩
abbrev cX9_in : ByteArray := prog_11_method_3_code
def yX9_in : MethodName := ⟨RX9, "in", "(JJJ)Z"⟩
abbrev cX9_no : ByteArray := prog_11_method_4_code
def yX9_no : MethodName := ⟨RX9, "no", "(I)J"⟩
abbrev cX9_isTwo : ByteArray := prog_11_method_5_code
def yX9_isTwo : MethodName := ⟨RX9, "isTwo", "(I)Z"⟩
abbrev cX9_isIn : ByteArray := prog_11_method_6_code
def yX9_isIn : MethodName := ⟨RX9, "isIn", "(II)Z"⟩
abbrev cX9_ones : ByteArray := prog_11_method_7_code
def yX9_ones : MethodName := ⟨RX9, "ones", "(I)I"⟩
abbrev cX9_amount : ByteArray := prog_11_method_8_code
def yX9_amount : MethodName := ⟨RX9, "amount", "(I)I"⟩
abbrev cX9_common : ByteArray := prog_11_method_9_code
def yX9_common : MethodName := ⟨RX9, "common", "(JJ)J"⟩
abbrev cX9_met : ByteArray := prog_11_method_10_code
def yX9_met : MethodName := ⟨RX9, "met", "(I)I"⟩
abbrev cX9_isSheet : ByteArray := prog_11_method_11_code
def yX9_isSheet : MethodName := ⟨RX9, "isSheet", "(I)Z"⟩
abbrev cX9_sheet : ByteArray := prog_11_method_12_code
def yX9_sheet : MethodName := ⟨RX9, "sheet", "(III)I"⟩
abbrev cX9_lose : ByteArray := prog_11_method_13_code
def yX9_lose : MethodName := ⟨RX9, "lose", "(I)I"⟩
abbrev cX9_lacks : ByteArray := prog_11_method_14_code
def yX9_lacks : MethodName := ⟨RX9, "lacks", "(III)I"⟩
abbrev cX9_cut : ByteArray := prog_11_method_15_code
def yX9_cut : MethodName := ⟨RX9, "cut", "(II)I"⟩
abbrev cX9_lay : ByteArray := prog_11_method_16_code
def yX9_lay : MethodName := ⟨RX9, "lay", "(IIII)I"⟩
abbrev cX9_get : ByteArray := prog_11_method_17_code
def yX9_get : MethodName := ⟨RX9, "get", "(III)I"⟩
abbrev cX9_copy : ByteArray := prog_11_method_18_code
def yX9_copy : MethodName := ⟨RX9, "copy", "(IIIII)I"⟩
abbrev cX9_isText : ByteArray := prog_11_method_19_code
def yX9_isText : MethodName := ⟨RX9, "isText", "(I)Z"⟩
abbrev cX9_type : ByteArray := prog_11_method_20_code
def yX9_type : MethodName := ⟨RX9, "type", "(II)I"⟩
abbrev cX9_wipe : ByteArray := prog_11_method_21_code
def yX9_wipe : MethodName := ⟨RX9, "wipe", "(I)I"⟩
abbrev cX9_undo : ByteArray := prog_11_method_22_code
def yX9_undo : MethodName := ⟨RX9, "undo", "(I)I"⟩
abbrev cX9_here : ByteArray := prog_11_method_23_code
def yX9_here : MethodName := ⟨RX9, "here", "(I)I"⟩
abbrev cX9_tells : ByteArray := prog_11_method_24_code
def yX9_tells : MethodName := ⟨RX9, "tells", "(III)I"⟩
abbrev cX9_readsThing : ByteArray := prog_11_method_25_code
def yX9_readsThing : MethodName := ⟨RX9, "readsThing", "(I)Z"⟩
abbrev cX9_readsText : ByteArray := prog_11_method_26_code
def yX9_readsText : MethodName := ⟨RX9, "readsText", "(I)I"⟩
abbrev cX9_reads : ByteArray := prog_11_method_27_code
def yX9_reads : MethodName := ⟨RX9, "reads", "()V"⟩
abbrev cX9_fault : ByteArray := prog_11_method_28_code
def yX9_fault : MethodName := ⟨RX9, "fault", "(I)I"⟩
abbrev cX9_isParty : ByteArray := prog_11_method_29_code
def yX9_isParty : MethodName := ⟨RX9, "isParty", "(I)Z"⟩
abbrev cX9_isVoter : ByteArray := prog_11_method_30_code
def yX9_isVoter : MethodName := ⟨RX9, "isVoter", "(I)Z"⟩
abbrev cX9_isYear : ByteArray := prog_11_method_31_code
def yX9_isYear : MethodName := ⟨RX9, "isYear", "(I)Z"⟩
abbrev cX9_isUnit : ByteArray := prog_11_method_32_code
def yX9_isUnit : MethodName := ⟨RX9, "isUnit", "(I)Z"⟩
abbrev cX9_isAnyVoter : ByteArray := prog_11_method_33_code
def yX9_isAnyVoter : MethodName := ⟨RX9, "isAnyVoter", "(I)Z"⟩
abbrev cX9_voter : ByteArray := prog_11_method_34_code
def yX9_voter : MethodName := ⟨RX9, "voter", "(II)I"⟩
abbrev cX9_set : ByteArray := prog_11_method_35_code
def yX9_set : MethodName := ⟨RX9, "set", "(II)I"⟩
abbrev cX9_purse : ByteArray := prog_11_method_36_code
def yX9_purse : MethodName := ⟨RX9, "purse", "(II)I"⟩
abbrev cX9_change : ByteArray := prog_11_method_37_code
def yX9_change : MethodName := ⟨RX9, "change", "(IIII)I"⟩
abbrev cX9_ticketOf : ByteArray := prog_11_method_38_code
def yX9_ticketOf : MethodName := ⟨RX9, "ticketOf", "(III)I"⟩
abbrev cX9_ticket : ByteArray := prog_11_method_39_code
def yX9_ticket : MethodName := ⟨RX9, "ticket", "(III)I"⟩
abbrev cX9_unitOf : ByteArray := prog_11_method_40_code
def yX9_unitOf : MethodName := ⟨RX9, "unitOf", "(I)I"⟩
abbrev cX9_holds : ByteArray := prog_11_method_41_code
def yX9_holds : MethodName := ⟨RX9, "holds", "(I)I"⟩
abbrev cX9_gain : ByteArray := prog_11_method_42_code
def yX9_gain : MethodName := ⟨RX9, "gain", "(III)I"⟩
abbrev cX9_choice : ByteArray := prog_11_method_43_code
def yX9_choice : MethodName := ⟨RX9, "choice", "(III)I"⟩
abbrev cX9_approves : ByteArray := prog_11_method_44_code
def yX9_approves : MethodName := ⟨RX9, "approves", "(IIII)Z"⟩
abbrev cX9_counts : ByteArray := prog_11_method_45_code
def yX9_counts : MethodName := ⟨RX9, "counts", "(IIII)V"⟩
abbrev cX9_mostAt : ByteArray := prog_11_method_46_code
def yX9_mostAt : MethodName := ⟨RX9, "mostAt", "(II)I"⟩
abbrev cX9_lives : ByteArray := prog_11_method_47_code
def yX9_lives : MethodName := ⟨RX9, "lives", "(I)V"⟩
abbrev cX9_livesNow : ByteArray := prog_11_method_48_code
def yX9_livesNow : MethodName := ⟨RX9, "livesNow", "()V"⟩
abbrev cX9_greatOf : ByteArray := prog_11_method_49_code
def yX9_greatOf : MethodName := ⟨RX9, "greatOf", "(II)I"⟩
abbrev cX9_elected : ByteArray := prog_11_method_50_code
def yX9_elected : MethodName := ⟨RX9, "elected", "(II)I"⟩
abbrev cX9_great : ByteArray := prog_11_method_51_code
def yX9_great : MethodName := ⟨RX9, "great", "(II)I"⟩
abbrev cX9_votes : ByteArray := prog_11_method_52_code
def yX9_votes : MethodName := ⟨RX9, "votes", "(III)I"⟩
abbrev cX9_splitNow : ByteArray := prog_11_method_53_code
def yX9_splitNow : MethodName := ⟨RX9, "splitNow", "()I"⟩
abbrev cX9_split : ByteArray := prog_11_method_54_code
def yX9_split : MethodName := ⟨RX9, "split", "()I"⟩
abbrev cX9_contract : ByteArray := prog_11_method_55_code
def yX9_contract : MethodName := ⟨RX9, "contract", "(IIIIII)I"⟩
abbrev cX9_paysBy : ByteArray := prog_11_method_56_code
def yX9_paysBy : MethodName := ⟨RX9, "paysBy", "(II)I"⟩
abbrev cX9_pays : ByteArray := prog_11_method_57_code
def yX9_pays : MethodName := ⟨RX9, "pays", "(I)I"⟩
abbrev cX9_moneyOf : ByteArray := prog_11_method_58_code
def yX9_moneyOf : MethodName := ⟨RX9, "moneyOf", "(II)I"⟩
abbrev cX9_money : ByteArray := prog_11_method_59_code
def yX9_money : MethodName := ⟨RX9, "money", "(II)I"⟩
abbrev cX9_ruinedOf : ByteArray := prog_11_method_60_code
def yX9_ruinedOf : MethodName := ⟨RX9, "ruinedOf", "(I)I"⟩
abbrev cX9_ruined : ByteArray := prog_11_method_61_code
def yX9_ruined : MethodName := ⟨RX9, "ruined", "(I)I"⟩
abbrev cX9_worstOf : ByteArray := prog_11_method_62_code
def yX9_worstOf : MethodName := ⟨RX9, "worstOf", "(I)I"⟩
abbrev cX9_worst : ByteArray := prog_11_method_63_code
def yX9_worst : MethodName := ⟨RX9, "worst", "(I)I"⟩
abbrev cX9_mostTold : ByteArray := prog_11_method_64_code
def yX9_mostTold : MethodName := ⟨RX9, "mostTold", "()I"⟩
abbrev cX9_six : ByteArray := prog_11_method_65_code
def yX9_six : MethodName := ⟨RX9, "six", "()I"⟩
abbrev cX9_isRest : ByteArray := prog_11_method_66_code
def yX9_isRest : MethodName := ⟨RX9, "isRest", "()Z"⟩
abbrev cX9_chooses : ByteArray := prog_11_method_67_code
def yX9_chooses : MethodName := ⟨RX9, "chooses", "()V"⟩
abbrev cX9_isRow : ByteArray := prog_11_method_68_code
def yX9_isRow : MethodName := ⟨RX9, "isRow", "(I)Z"⟩
abbrev cX9_restOf : ByteArray := prog_11_method_69_code
def yX9_restOf : MethodName := ⟨RX9, "restOf", "(I)I"⟩
abbrev cX9_rest : ByteArray := prog_11_method_70_code
def yX9_rest : MethodName := ⟨RX9, "rest", "(I)I"⟩
abbrev cX9_restsNow : ByteArray := prog_11_method_71_code
def yX9_restsNow : MethodName := ⟨RX9, "restsNow", "()I"⟩
abbrev cX9_rests : ByteArray := prog_11_method_72_code
def yX9_rests : MethodName := ⟨RX9, "rests", "()I"⟩
abbrev cX9_gainBy : ByteArray := prog_11_method_73_code
def yX9_gainBy : MethodName := ⟨RX9, "gainBy", "(IIII)I"⟩
abbrev cX9_isElectedBy : ByteArray := prog_11_method_74_code
def yX9_isElectedBy : MethodName := ⟨RX9, "isElectedBy", "(II)Z"⟩
abbrev cX9_findWish : ByteArray := prog_11_method_75_code
def yX9_findWish : MethodName := ⟨RX9, "findWish", "(I)V"⟩
abbrev cX9_wins : ByteArray := prog_11_method_76_code
def yX9_wins : MethodName := ⟨RX9, "wins", "(II)I"⟩
abbrev cX9_isHedged : ByteArray := prog_11_method_77_code
def yX9_isHedged : MethodName := ⟨RX9, "isHedged", "(IIII)Z"⟩
abbrev cX9_hedgeOf : ByteArray := prog_11_method_78_code
def yX9_hedgeOf : MethodName := ⟨RX9, "hedgeOf", "(I)I"⟩
abbrev cX9_hedge : ByteArray := prog_11_method_79_code
def yX9_hedge : MethodName := ⟨RX9, "hedge", "(I)I"⟩
abbrev cX9_joins : ByteArray := prog_11_method_80_code
def yX9_joins : MethodName := ⟨RX9, "joins", "(IIJJ)V"⟩
abbrev cX9_finds : ByteArray := prog_11_method_81_code
def yX9_finds : MethodName := ⟨RX9, "finds", "(I)Z"⟩
abbrev cX9_worthOf : ByteArray := prog_11_method_82_code
def yX9_worthOf : MethodName := ⟨RX9, "worthOf", "(III)J"⟩
abbrev cX9_worth : ByteArray := prog_11_method_83_code
def yX9_worth : MethodName := ⟨RX9, "worth", "(III)J"⟩
abbrev cX9_clash : ByteArray := prog_11_method_84_code
def yX9_clash : MethodName := ⟨RX9, "clash", "()I"⟩
abbrev cX9_dropNow : ByteArray := prog_11_method_85_code
def yX9_dropNow : MethodName := ⟨RX9, "dropNow", "()I"⟩
abbrev cX9_drop : ByteArray := prog_11_method_86_code
def yX9_drop : MethodName := ⟨RX9, "drop", "()I"⟩
abbrev cX9_rate : ByteArray := prog_11_method_87_code
def yX9_rate : MethodName := ⟨RX9, "rate", "(IIII)I"⟩
abbrev cX9_digit : ByteArray := prog_11_method_88_code
def yX9_digit : MethodName := ⟨RX9, "digit", "(III)I"⟩
abbrev cX9_isTour : ByteArray := prog_11_method_89_code
def yX9_isTour : MethodName := ⟨RX9, "isTour", "(II)Z"⟩
abbrev cX9_findRound : ByteArray := prog_11_method_90_code
def yX9_findRound : MethodName := ⟨RX9, "findRound", "()V"⟩
abbrev cX9_tellsRound : ByteArray := prog_11_method_91_code
def yX9_tellsRound : MethodName := ⟨RX9, "tellsRound", "(I)I"⟩
abbrev cX9_round : ByteArray := prog_11_method_92_code
def yX9_round : MethodName := ⟨RX9, "round", "(I)I"⟩
abbrev cX9_bill : ByteArray := prog_11_method_93_code
def yX9_bill : MethodName := ⟨RX9, "bill", "(III)I"⟩
abbrev cX9_yearsNow : ByteArray := prog_11_method_94_code
def yX9_yearsNow : MethodName := ⟨RX9, "yearsNow", "()I"⟩
abbrev cX9_years : ByteArray := prog_11_method_95_code
def yX9_years : MethodName := ⟨RX9, "years", "()I"⟩
abbrev cX9_back : ByteArray := prog_11_method_96_code
def yX9_back : MethodName := ⟨RX9, "back", "(I)I"⟩
abbrev cX9_read : ByteArray := prog_11_method_97_code
def yX9_read : MethodName := ⟨RX9, "read", "(I)I"⟩
abbrev cX9_write : ByteArray := prog_11_method_98_code
def yX9_write : MethodName := ⟨RX9, "write", "(II)I"⟩
abbrev cX9_count : ByteArray := prog_11_method_99_code
def yX9_count : MethodName := ⟨RX9, "count", "(I)I"⟩
abbrev cX9_digest : ByteArray := prog_11_method_100_code
def yX9_digest : MethodName := ⟨RX9, "digest", "()J"⟩
def RJ6 : String := "java/lang/Integer"
abbrev cJ6_bitCount_0f7a4 : ByteArray := prog_12_method_49_code
def yJ6_bitCount_0f7a4 : MethodName := ⟨RJ6, "bitCount", "(I)I"⟩
def RJ9 : String := "java/lang/Math"
abbrev cJ9_abs_0f7a4 : ByteArray := prog_13_method_59_code
def yJ9_abs_0f7a4 : MethodName := ⟨RJ9, "abs", "(I)I"⟩
abbrev cJ9_min_7cf53 : ByteArray := prog_13_method_69_code
def yJ9_min_7cf53 : MethodName := ⟨RJ9, "min", "(II)I"⟩
def RJ10 : String := "java/lang/System"
def RJ7 : String := "java/util/Arrays"
abbrev cJ7_fill_53178 : ByteArray := prog_15_method_103_code
def yJ7_fill_53178 : MethodName := ⟨RJ7, "fill", "([II)V"⟩
def RL : String := "PoundVotesLaw"
abbrev cL_law : ByteArray := code
def yL_law : MethodName := ⟨RL, "law", "([I)Z"⟩
def wsL_law_r1 : List Cond := [Cond.classLink RL 7 RX8, Cond.instantiable RX8 20, Cond.initialized RX8, Cond.classLink RL 10 RX9, Cond.instantiable RX9 34, Cond.initialized RX9, Cond.methodLink RL 9 yX8_init, Cond.instanceMethod yX8_init, Cond.code yX8_init cX8_init 1 none, Cond.methodLink RX8 3 objectInit, Cond.instanceMethod objectInit, Cond.code objectInit ⟨#[0xb1]⟩ 1 none, Cond.classLink RX8 9 RX5, Cond.instantiable RX5 3, Cond.initialized RX5, Cond.fieldLink RX8 14 "PoundVotes" "tickets" "LPoundVotes$Text;", Cond.fieldLink RX8 18 "PoundVotes" "voters" "LPoundVotes$Text;", Cond.fieldLink RX8 23 "PoundVotes" "ratios" "LPoundVotes$Text;", Cond.classLink RX8 26 RX3, Cond.instantiable RX3 2, Cond.initialized RX3, Cond.fieldLink RX8 29 "PoundVotes" "changes" "LPoundVotes$Rows;", Cond.fieldLink RX8 33 "PoundVotes" "contracts" "LPoundVotes$Rows;", Cond.fieldLink RX8 36 "PoundVotes" "bills" "LPoundVotes$Rows;"]
def wsL_law_r2 : List Cond := [Cond.arrayClass .int, Cond.fieldLink RX8 39 "PoundVotes" "purses" "[I", Cond.fieldLink RX8 43 "PoundVotes" "held" "[I", Cond.classLink RX8 46 RX2, Cond.instantiable RX2 6, Cond.initialized RX2, Cond.fieldLink RX8 49 "PoundVotes" "roll" "LPoundVotes$Roll;", Cond.classLink RX8 53 RX1, Cond.instantiable RX1 7, Cond.initialized RX1, Cond.fieldLink RX8 58 "PoundVotes" "wholePoll" "LPoundVotes$Poll;", Cond.fieldLink RX8 62 "PoundVotes" "unitPoll" "LPoundVotes$Poll;", Cond.fieldLink RX8 65 "PoundVotes" "approvalPoll" "LPoundVotes$Poll;", Cond.classLink RX8 68 RX0, Cond.instantiable RX0 13, Cond.initialized RX0, Cond.fieldLink RX8 73 "PoundVotes" "ballot" "LPoundVotes$Ballot;", Cond.classLink RX8 21 RX7, Cond.instantiable RX7 3, Cond.initialized RX7, Cond.fieldLink RX8 78 "PoundVotes" "worths" "LPoundVotes$Worths;", Cond.classLink RX8 82 RX6, Cond.instantiable RX6 7, Cond.initialized RX6]
def wsL_law_r3 : List Cond := [Cond.fieldLink RX8 85 "PoundVotes" "towns" "LPoundVotes$Towns;", Cond.classLink RX8 89 RX4, Cond.instantiable RX4 3, Cond.initialized RX4, Cond.fieldLink RX8 92 "PoundVotes" "sheets" "LPoundVotes$Sheets;", Cond.fieldLink RX8 96 "PoundVotes" "law" "I", Cond.fieldLink RX8 100 "PoundVotes" "day" "I", Cond.fieldLink RX8 103 "PoundVotes" "finding" "I", Cond.fieldLink RX8 106 "PoundVotes" "stale" "Z", Cond.methodLink RX8 11 yX5_init, Cond.instanceMethod yX5_init, Cond.code yX5_init cX5_init 3 none, Cond.methodLink RX5 3 objectInit, Cond.fieldLink RX5 9 "PoundVotes$Text" "kind" "I", Cond.fieldLink RX5 15 "PoundVotes$Text" "bytes" "[I", Cond.methodLink RX8 28 yX3_init, Cond.instanceMethod yX3_init, Cond.code yX3_init cX3_init 3 none, Cond.methodLink RX3 1 objectInit, Cond.classLink RX3 7 "[[I", Cond.fieldLink RX3 9 "PoundVotes$Rows" "rows" "[[I", Cond.instanceMethod yX2_init, Cond.code yX2_init cX2_init 1 none, Cond.methodLink RX2 3 objectInit]
def wsL_law_r4 : List Cond := [Cond.classLink RX2 9 "[[I", Cond.fieldLink RX2 11 "PoundVotes$Roll" "figures" "[[I", Cond.fieldLink RX2 16 "PoundVotes$Roll" "unitsOfVoters" "[I", Cond.fieldLink RX2 20 "PoundVotes$Roll" "owedToVoters" "[I", Cond.methodLink RX8 55 yX1_init, Cond.instanceMethod yX1_init, Cond.code yX1_init cX1_init 3 none, Cond.methodLink RX1 3 objectInit, Cond.classLink RX1 9 "[[I", Cond.fieldLink RX1 11 "PoundVotes$Poll" "winners" "[[I", Cond.fieldLink RX1 16 "PoundVotes$Poll" "greats" "[[I", Cond.fieldLink RX1 19 "PoundVotes$Poll" "tallies" "[[I", Cond.fieldLink RX1 22 "PoundVotes$Poll" "gains" "[I", Cond.fieldLink RX1 26 "PoundVotes$Poll" "roll" "LPoundVotes$Roll;", Cond.fieldLink RX1 30 "PoundVotes$Poll" "law" "I", Cond.methodLink RX8 70 yX0_init, Cond.instanceMethod yX0_init, Cond.code yX0_init cX0_init 2 none, Cond.methodLink RX0 3 objectInit, Cond.fieldLink RX0 9 "PoundVotes$Ballot" "gains" "[I", Cond.fieldLink RX0 15 "PoundVotes$Ballot" "tally" "[I", Cond.fieldLink RX0 18 "PoundVotes$Ballot" "unspent" "[I", Cond.classLink RX0 21 "[[I", Cond.fieldLink RX0 23 "PoundVotes$Ballot" "playerGains" "[[I"]
def wsL_law_r5 : List Cond := [Cond.fieldLink RX0 26 "PoundVotes$Ballot" "contentBits" "[I", Cond.fieldLink RX0 29 "PoundVotes$Ballot" "support" "[I", Cond.fieldLink RX0 32 "PoundVotes$Ballot" "winVersions" "[I", Cond.fieldLink RX0 35 "PoundVotes$Ballot" "winTickets" "[I", Cond.fieldLink RX0 38 "PoundVotes$Ballot" "winUnlikeness" "[I", Cond.fieldLink RX0 41 "PoundVotes$Ballot" "odds" "[[I", Cond.fieldLink RX0 44 "PoundVotes$Ballot" "roll" "LPoundVotes$Roll;", Cond.instanceMethod yX7_init, Cond.code yX7_init cX7_init 1 none, Cond.methodLink RX7 3 objectInit, Cond.fieldLink RX7 11 "PoundVotes$Worths" "groups" "[I", Cond.arrayClass .long, Cond.fieldLink RX7 15 "PoundVotes$Worths" "above" "[J", Cond.fieldLink RX7 19 "PoundVotes$Worths" "below" "[J", Cond.methodLink RX8 84 yX6_init, Cond.instanceMethod yX6_init, Cond.code yX6_init cX6_init 1 none, Cond.methodLink RX6 3 objectInit, Cond.fieldLink RX6 9 "PoundVotes$Towns" "bestAbove" "I", Cond.fieldLink RX6 15 "PoundVotes$Towns" "bestBelow" "I", Cond.fieldLink RX6 18 "PoundVotes$Towns" "best" "[I", Cond.fieldLink RX6 22 "PoundVotes$Towns" "way" "[I", Cond.fieldLink RX6 25 "PoundVotes$Towns" "above" "[I", Cond.fieldLink RX6 28 "PoundVotes$Towns" "below" "[I"]
def wsL_law_r6 : List Cond := [Cond.methodLink RX6 31 yJ7_fill_53178, Cond.static yJ7_fill_53178, Cond.initialized RJ7, Cond.code yJ7_fill_53178 cJ7_fill_53178 4 none, Cond.methodLink RX8 91 yX4_init, Cond.instanceMethod yX4_init, Cond.code yX4_init cX4_init 1 none, Cond.methodLink RX4 3 objectInit, Cond.fieldLink RX4 11 "PoundVotes$Sheets" "forms" "[I", Cond.fieldLink RX4 15 "PoundVotes$Sheets" "sizes" "[I", Cond.classLink RX4 18 "[[I", Cond.fieldLink RX4 20 "PoundVotes$Sheets" "items" "[[I", Cond.methodLink RX4 23 yJ7_fill_53178, Cond.methodLink RX8 110 yJ7_fill_53178, Cond.methodLink RL 12 yX9_init, Cond.instanceMethod yX9_init, Cond.code yX9_init cX9_init 2 none, Cond.methodLink RX9 1 objectInit, Cond.fieldLink RX9 7 "PoundVotesModel" "forms" "[I", Cond.fieldLink RX9 13 "PoundVotesModel" "sizes" "[I", Cond.fieldLink RX9 16 "PoundVotesModel" "items" "[I", Cond.fieldLink RX9 19 "PoundVotesModel" "moved" "[I", Cond.fieldLink RX9 22 "PoundVotesModel" "bytes" "[I", Cond.fieldLink RX9 25 "PoundVotesModel" "typed" "[I"]
def wsL_law_r7 : List Cond := [Cond.fieldLink RX9 28 "PoundVotesModel" "many" "[I", Cond.fieldLink RX9 31 "PoundVotesModel" "told" "[I", Cond.fieldLink RX9 34 "PoundVotesModel" "settings" "[I", Cond.fieldLink RX9 37 "PoundVotesModel" "purses" "[I", Cond.fieldLink RX9 40 "PoundVotesModel" "change" "[I", Cond.fieldLink RX9 43 "PoundVotesModel" "elected" "[I", Cond.fieldLink RX9 46 "PoundVotesModel" "votes" "[I", Cond.fieldLink RX9 49 "PoundVotesModel" "made" "[I", Cond.fieldLink RX9 52 "PoundVotesModel" "contract" "[I", Cond.fieldLink RX9 55 "PoundVotesModel" "has" "[I", Cond.fieldLink RX9 58 "PoundVotesModel" "tally" "[I", Cond.fieldLink RX9 61 "PoundVotesModel" "choices" "[I", Cond.fieldLink RX9 64 "PoundVotesModel" "wish" "[I", Cond.fieldLink RX9 67 "PoundVotesModel" "root" "[I", Cond.fieldLink RX9 70 "PoundVotesModel" "above" "[J", Cond.fieldLink RX9 74 "PoundVotesModel" "below" "[J", Cond.fieldLink RX9 77 "PoundVotesModel" "rates" "[I", Cond.fieldLink RX9 80 "PoundVotesModel" "bestRow" "[I", Cond.fieldLink RX9 83 "PoundVotesModel" "bill" "[I", Cond.methodLink RL 13 yX8_type, Cond.instanceMethod yX8_type, Cond.selects RX8 yX8_type yX8_type, Cond.code yX8_type cX8_type 4 (some .int), Cond.fieldLink RX8 136 "PoundVotes$Text" "size" "I"]
def wsL_law_r8 : List Cond := [Cond.methodLink RX8 116 yX8_isText, Cond.static yX8_isText, Cond.code yX8_isText cX8_isText 1 (some .boolean), Cond.methodLink RX8 120 yX8_isWithin, Cond.static yX8_isWithin, Cond.code yX8_isWithin cX8_isWithin 3 (some .boolean), Cond.methodLink RX8 124 yX8_textOf, Cond.instanceMethod yX8_textOf, Cond.selects RX8 yX8_textOf yX8_textOf, Cond.code yX8_textOf cX8_textOf 2 (some (.object "PoundVotes$Text")), Cond.methodLink RX8 128 yX5_isFull, Cond.instanceMethod yX5_isFull, Cond.selects RX5 yX5_isFull yX5_isFull, Cond.code yX5_isFull cX5_isFull 1 (some .boolean), Cond.fieldLink RX5 19 "PoundVotes$Text" "size" "I", Cond.methodLink RX8 132 yX5_append, Cond.instanceMethod yX5_append, Cond.selects RX5 yX5_append yX5_append, Cond.code yX5_append cX5_append 2 none, Cond.methodLink RX5 22 yX5_isFull, Cond.methodLink RL 17 yX9_type, Cond.instanceMethod yX9_type, Cond.selects RX9 yX9_type yX9_type, Cond.code yX9_type cX9_type 3 (some .int)]
def wsL_law_r9 : List Cond := [Cond.constantLong RX9 120 (255), Cond.methodLink RX9 117 yX9_isText, Cond.static yX9_isText, Cond.code yX9_isText cX9_isText 1 (some .boolean), Cond.constantLong RX9 102 (2), Cond.methodLink RX9 88 yX9_in, Cond.static yX9_in, Cond.code yX9_in cX9_in 6 (some .boolean), Cond.methodLink RL 18 yX8_wipe, Cond.instanceMethod yX8_wipe, Cond.selects RX8 yX8_wipe yX8_wipe, Cond.code yX8_wipe cX8_wipe 4 (some .int), Cond.methodLink RL 22 yX9_wipe, Cond.instanceMethod yX9_wipe, Cond.selects RX9 yX9_wipe yX9_wipe, Cond.code yX9_wipe cX9_wipe 3 (some .int), Cond.methodLink RL 23 yX8_undo, Cond.instanceMethod yX8_undo, Cond.selects RX8 yX8_undo yX8_undo, Cond.code yX8_undo cX8_undo 3 (some .int), Cond.methodLink RL 26 yX9_undo, Cond.instanceMethod yX9_undo, Cond.selects RX9 yX9_undo yX9_undo, Cond.code yX9_undo cX9_undo 2 (some .int)]
def wsL_law_r10 : List Cond := [Cond.methodLink RL 27 yX8_fault, Cond.instanceMethod yX8_fault, Cond.selects RX8 yX8_fault yX8_fault, Cond.code yX8_fault cX8_fault 2 (some .int), Cond.methodLink RX8 139 yX5_faultPlace, Cond.instanceMethod yX5_faultPlace, Cond.selects RX5 yX5_faultPlace yX5_faultPlace, Cond.code yX5_faultPlace cX5_faultPlace 2 (some .int), Cond.methodLink RX5 26 yX5_fits, Cond.instanceMethod yX5_fits, Cond.selects RX5 yX5_fits yX5_fits, Cond.code yX5_fits cX5_fits 4 (some .boolean), Cond.methodLink RL 30 yX9_fault, Cond.instanceMethod yX9_fault, Cond.selects RX9 yX9_fault yX9_fault, Cond.code yX9_fault cX9_fault 2 (some .int), Cond.methodLink RX9 144 yX9_readsText, Cond.instanceMethod yX9_readsText, Cond.selects RX9 yX9_readsText yX9_readsText, Cond.code yX9_readsText cX9_readsText 4 (some .int), Cond.fieldLink RX9 122 "PoundVotesModel" "at" "I", Cond.methodLink RX9 141 yX9_readsThing, Cond.instanceMethod yX9_readsThing, Cond.selects RX9 yX9_readsThing yX9_readsThing]
def wsL_law_r11 : List Cond := [Cond.code yX9_readsThing cX9_readsThing 5 (some .boolean), Cond.methodLink RX9 138 yX9_tells, Cond.instanceMethod yX9_tells, Cond.selects RX9 yX9_tells yX9_tells, Cond.code yX9_tells cX9_tells 6 (some .int), Cond.constantLong RX9 128 (49), Cond.constantLong RX9 130 (57), Cond.constantLong RX9 132 (97), Cond.constantLong RX9 134 (99), Cond.constantLong RX9 136 (102), Cond.methodLink RX9 125 yX9_here, Cond.instanceMethod yX9_here, Cond.selects RX9 yX9_here yX9_here, Cond.code yX9_here cX9_here 2 (some .int), Cond.methodLink RL 31 yX8_ticket, Cond.instanceMethod yX8_ticket, Cond.selects RX8 yX8_ticket yX8_ticket, Cond.code yX8_ticket cX8_ticket 4 (some .int), Cond.methodLink RX8 143 yX8_settle, Cond.instanceMethod yX8_settle, Cond.selects RX8 yX8_settle yX8_settle, Cond.code yX8_settle cX8_settle 1 none, Cond.methodLink RX8 409 yX2_take, Cond.instanceMethod yX2_take]
def wsL_law_r12 : List Cond := [Cond.selects RX2 yX2_take yX2_take, Cond.code yX2_take cX2_take 6 none, Cond.fieldLink RX2 23 "PoundVotes$Roll" "version" "I", Cond.fieldLink RX2 33 "PoundVotes$Roll" "parties" "I", Cond.fieldLink RX2 36 "PoundVotes$Roll" "voters" "I", Cond.methodLink RX2 27 yX5_items, Cond.instanceMethod yX5_items, Cond.selects RX5 yX5_items yX5_items, Cond.code yX5_items cX5_items 1 (some .int), Cond.methodLink RX5 30 yX5_faultPlace, Cond.methodLink RX2 39 yX5_byteOf, Cond.instanceMethod yX5_byteOf, Cond.selects RX5 yX5_byteOf yX5_byteOf, Cond.code yX5_byteOf cX5_byteOf 3 (some .int), Cond.methodLink RX2 43 yX2_carry, Cond.instanceMethod yX2_carry, Cond.selects RX2 yX2_carry yX2_carry, Cond.code yX2_carry cX2_carry 5 none, Cond.methodLink RX2 51 yX2_figure, Cond.instanceMethod yX2_figure, Cond.selects RX2 yX2_figure yX2_figure, Cond.code yX2_figure cX2_figure 4 (some .int), Cond.methodLink RX2 47 yX2_alter, Cond.instanceMethod yX2_alter]
def wsL_law_r13 : List Cond := [Cond.selects RX2 yX2_alter yX2_alter, Cond.code yX2_alter cX2_alter 5 none, Cond.fieldLink RX2 55 "PoundVotes$Rows" "size" "I", Cond.fieldLink RX2 60 "PoundVotes$Rows" "rows" "[[I", Cond.methodLink RX8 183 yX8_pollBy, Cond.instanceMethod yX8_pollBy, Cond.selects RX8 yX8_pollBy yX8_pollBy, Cond.code yX8_pollBy cX8_pollBy 2 (some (.object "PoundVotes$Poll")), Cond.methodLink RX8 197 yX1_update, Cond.instanceMethod yX1_update, Cond.selects RX1 yX1_update yX1_update, Cond.code yX1_update cX1_update 3 none, Cond.fieldLink RX1 34 "PoundVotes$Poll" "version" "I", Cond.fieldLink RX1 37 "PoundVotes$Roll" "version" "I", Cond.fieldLink RX1 40 "PoundVotes$Roll" "parties" "I", Cond.methodLink RX1 43 yX1_leaveOpen, Cond.instanceMethod yX1_leaveOpen, Cond.selects RX1 yX1_leaveOpen yX1_leaveOpen, Cond.code yX1_leaveOpen cX1_leaveOpen 3 none, Cond.methodLink RX1 47 yX1_hold, Cond.instanceMethod yX1_hold, Cond.selects RX1 yX1_hold yX1_hold, Cond.code yX1_hold cX1_hold 7 none, Cond.fieldLink RX1 53 "PoundVotes$Roll" "voters" "I"]
def wsL_law_r14 : List Cond := [Cond.methodLink RX1 56 yX2_unitOf, Cond.instanceMethod yX2_unitOf, Cond.selects RX2 yX2_unitOf yX2_unitOf, Cond.code yX2_unitOf cX2_unitOf 2 (some .int), Cond.methodLink RX1 60 yX2_fillGains, Cond.instanceMethod yX2_fillGains, Cond.selects RX2 yX2_fillGains yX2_fillGains, Cond.code yX2_fillGains cX2_fillGains 5 none, Cond.methodLink RX2 63 yX2_gain, Cond.instanceMethod yX2_gain, Cond.selects RX2 yX2_gain yX2_gain, Cond.code yX2_gain cX2_gain 4 (some .int), Cond.methodLink RX1 64 yX1_approve, Cond.instanceMethod yX1_approve, Cond.selects RX1 yX1_approve yX1_approve, Cond.code yX1_approve cX1_approve 6 none, Cond.static yX8_greatest, Cond.code yX8_greatest cX8_greatest 6 (some .int), Cond.methodLink RX1 72 yX2_figure, Cond.methodLink RX1 50 yX1_repeatFirst, Cond.instanceMethod yX1_repeatFirst, Cond.selects RX1 yX1_repeatFirst yX1_repeatFirst, Cond.code yX1_repeatFirst cX1_repeatFirst 3 none, Cond.methodLink RX1 76 arraycopyName]
def wsL_law_r15 : List Cond := [Cond.native arraycopyName, Cond.static arraycopyName, Cond.initialized "java/lang/System", Cond.methodLink RX8 146 yX8_isYear, Cond.static yX8_isYear, Cond.code yX8_isYear cX8_isYear 1 (some .boolean), Cond.methodLink RX8 149 yX8_isParty, Cond.instanceMethod yX8_isParty, Cond.selects RX8 yX8_isParty yX8_isParty, Cond.code yX8_isParty cX8_isParty 2 (some .boolean), Cond.fieldLink RX8 215 "PoundVotes$Roll" "parties" "I", Cond.methodLink RX8 152 yX8_isUnit, Cond.static yX8_isUnit, Cond.code yX8_isUnit cX8_isUnit 1 (some .boolean), Cond.methodLink RX8 155 yX2_figure, Cond.methodLink RL 35 yX9_ticket, Cond.instanceMethod yX9_ticket, Cond.selects RX9 yX9_ticket yX9_ticket, Cond.code yX9_ticket cX9_ticket 4 (some .int), Cond.methodLink RX9 151 yX9_reads, Cond.instanceMethod yX9_reads, Cond.selects RX9 yX9_reads yX9_reads, Cond.code yX9_reads cX9_reads 2 none, Cond.methodLink RX9 165 yX9_isYear]
def wsL_law_r16 : List Cond := [Cond.static yX9_isYear, Cond.code yX9_isYear cX9_isYear 1 (some .boolean), Cond.constantLong RX9 147 (9), Cond.methodLink RX9 174 yX9_isParty, Cond.instanceMethod yX9_isParty, Cond.selects RX9 yX9_isParty yX9_isParty, Cond.code yX9_isParty cX9_isParty 2 (some .boolean), Cond.methodLink RX9 168 yX9_isUnit, Cond.static yX9_isUnit, Cond.code yX9_isUnit cX9_isUnit 1 (some .boolean), Cond.methodLink RX9 177 yX9_ticketOf, Cond.instanceMethod yX9_ticketOf, Cond.selects RX9 yX9_ticketOf yX9_ticketOf, Cond.code yX9_ticketOf cX9_ticketOf 8 (some .int), Cond.fieldLink RX9 171 "PoundVotesModel" "changes" "I", Cond.methodLink RL 36 yX8_voter, Cond.instanceMethod yX8_voter, Cond.selects RX8 yX8_voter yX8_voter, Cond.code yX8_voter cX8_voter 3 (some .int), Cond.methodLink RX8 169 Lib.Math.abs.name, Cond.static Lib.Math.abs.name, Cond.initialized "java/lang/Math", Cond.code Lib.Math.abs.name Lib.Math.abs.code 1 (some .int), Cond.methodLink RX8 159 yX8_isOnRoll]
def wsL_law_r17 : List Cond := [Cond.instanceMethod yX8_isOnRoll, Cond.selects RX8 yX8_isOnRoll yX8_isOnRoll, Cond.code yX8_isOnRoll cX8_isOnRoll 2 (some .boolean), Cond.fieldLink RX8 407 "PoundVotes$Roll" "voters" "I", Cond.methodLink RX8 162 yX2_unitOf, Cond.methodLink RX8 166 yX2_owed, Cond.instanceMethod yX2_owed, Cond.selects RX2 yX2_owed yX2_owed, Cond.code yX2_owed cX2_owed 2 (some .int), Cond.methodLink RL 39 yX9_voter, Cond.instanceMethod yX9_voter, Cond.selects RX9 yX9_voter yX9_voter, Cond.code yX9_voter cX9_voter 3 (some .int), Cond.methodLink RX9 154 yX9_isVoter, Cond.instanceMethod yX9_isVoter, Cond.selects RX9 yX9_isVoter yX9_isVoter, Cond.code yX9_isVoter cX9_isVoter 2 (some .boolean), Cond.methodLink RL 40 yX8_set, Cond.instanceMethod yX8_set, Cond.selects RX8 yX8_set yX8_set, Cond.code yX8_set cX8_set 4 (some .int), Cond.methodLink RL 43 yX9_set, Cond.instanceMethod yX9_set, Cond.selects RX9 yX9_set yX9_set]
def wsL_law_r18 : List Cond := [Cond.code yX9_set cX9_set 4 (some .int), Cond.methodLink RX9 157 yX9_isTwo, Cond.static yX9_isTwo, Cond.code yX9_isTwo cX9_isTwo 1 (some .boolean), Cond.methodLink RL 44 yX8_purse, Cond.instanceMethod yX8_purse, Cond.selects RX8 yX8_purse yX8_purse, Cond.code yX8_purse cX8_purse 4 (some .int), Cond.methodLink RX8 174 yX8_isPerson, Cond.static yX8_isPerson, Cond.code yX8_isPerson cX8_isPerson 1 (some .boolean), Cond.methodLink RL 47 yX9_purse, Cond.instanceMethod yX9_purse, Cond.selects RX9 yX9_purse yX9_purse, Cond.code yX9_purse cX9_purse 4 (some .int), Cond.constantLong RX9 163 (999), Cond.methodLink RX9 160 yX9_isAnyVoter, Cond.static yX9_isAnyVoter, Cond.code yX9_isAnyVoter cX9_isAnyVoter 1 (some .boolean), Cond.constantLong RX9 149 (7), Cond.methodLink RL 48 yX8_change, Cond.instanceMethod yX8_change, Cond.selects RX8 yX8_change yX8_change, Cond.code yX8_change cX8_change 6 (some .int)]
def wsL_law_r19 : List Cond := [Cond.fieldLink RX8 182 "PoundVotes$Rows" "size" "I", Cond.methodLink RX8 177 yX3_isFull, Cond.instanceMethod yX3_isFull, Cond.selects RX3 yX3_isFull yX3_isFull, Cond.code yX3_isFull cX3_isFull 1 (some .boolean), Cond.fieldLink RX3 14 "PoundVotes$Rows" "size" "I", Cond.methodLink RX8 178 yX3_next, Cond.instanceMethod yX3_next, Cond.selects RX3 yX3_next yX3_next, Cond.code yX3_next cX3_next 2 (some (.array .int)), Cond.methodLink RL 52 yX9_change, Cond.instanceMethod yX9_change, Cond.selects RX9 yX9_change yX9_change, Cond.code yX9_change cX9_change 5 (some .int), Cond.constantLong RX9 96 (3), Cond.methodLink RL 53 yX8_back, Cond.instanceMethod yX8_back, Cond.selects RX8 yX8_back yX8_back, Cond.code yX8_back cX8_back 3 (some .int), Cond.methodLink RL 56 yX9_back, Cond.instanceMethod yX9_back, Cond.selects RX9 yX9_back yX9_back, Cond.code yX9_back cX9_back 3 (some .int), Cond.fieldLink RX9 217 "PoundVotesModel" "contracts" "I"]
def wsL_law_r20 : List Cond := [Cond.fieldLink RX9 336 "PoundVotesModel" "bills" "I", Cond.methodLink RL 57 yX8_elected, Cond.instanceMethod yX8_elected, Cond.selects RX8 yX8_elected yX8_elected, Cond.code yX8_elected cX8_elected 3 (some .int), Cond.methodLink RX8 187 yX1_winner, Cond.instanceMethod yX1_winner, Cond.selects RX1 yX1_winner yX1_winner, Cond.code yX1_winner cX1_winner 3 (some .int), Cond.methodLink RL 60 yX9_elected, Cond.instanceMethod yX9_elected, Cond.selects RX9 yX9_elected yX9_elected, Cond.code yX9_elected cX9_elected 3 (some .int), Cond.methodLink RX9 207 yX9_livesNow, Cond.instanceMethod yX9_livesNow, Cond.selects RX9 yX9_livesNow yX9_livesNow, Cond.code yX9_livesNow cX9_livesNow 1 none, Cond.methodLink RX9 203 yX9_lives, Cond.instanceMethod yX9_lives, Cond.selects RX9 yX9_lives yX9_lives, Cond.code yX9_lives cX9_lives 5 none, Cond.methodLink RX9 196 yX9_counts, Cond.instanceMethod yX9_counts, Cond.selects RX9 yX9_counts yX9_counts]
def wsL_law_r21 : List Cond := [Cond.code yX9_counts cX9_counts 8 none, Cond.methodLink RX9 189 yX9_approves, Cond.instanceMethod yX9_approves, Cond.selects RX9 yX9_approves yX9_approves, Cond.code yX9_approves cX9_approves 7 (some .boolean), Cond.methodLink RX9 186 yX9_gain, Cond.instanceMethod yX9_gain, Cond.selects RX9 yX9_gain yX9_gain, Cond.code yX9_gain cX9_gain 4 (some .int), Cond.methodLink RX9 180 yX9_holds, Cond.instanceMethod yX9_holds, Cond.selects RX9 yX9_holds yX9_holds, Cond.code yX9_holds cX9_holds 2 (some .int), Cond.methodLink RX9 183 yX9_unitOf, Cond.instanceMethod yX9_unitOf, Cond.selects RX9 yX9_unitOf yX9_unitOf, Cond.code yX9_unitOf cX9_unitOf 2 (some .int), Cond.methodLink RX9 193 yX9_choice, Cond.instanceMethod yX9_choice, Cond.selects RX9 yX9_choice yX9_choice, Cond.code yX9_choice cX9_choice 7 (some .int), Cond.methodLink RX9 200 yX9_mostAt, Cond.instanceMethod yX9_mostAt, Cond.selects RX9 yX9_mostAt yX9_mostAt]
def wsL_law_r22 : List Cond := [Cond.code yX9_mostAt cX9_mostAt 6 (some .int), Cond.methodLink RL 61 yX8_great, Cond.instanceMethod yX8_great, Cond.selects RX8 yX8_great yX8_great, Cond.code yX8_great cX8_great 3 (some .int), Cond.methodLink RX8 191 yX1_greatness, Cond.instanceMethod yX1_greatness, Cond.selects RX1 yX1_greatness yX1_greatness, Cond.code yX1_greatness cX1_greatness 3 (some .int), Cond.methodLink RL 64 yX9_great, Cond.instanceMethod yX9_great, Cond.selects RX9 yX9_great yX9_great, Cond.code yX9_great cX9_great 3 (some .int), Cond.methodLink RX9 210 yX9_greatOf, Cond.instanceMethod yX9_greatOf, Cond.selects RX9 yX9_greatOf yX9_greatOf, Cond.code yX9_greatOf cX9_greatOf 4 (some .int), Cond.methodLink RL 65 yX8_votes, Cond.instanceMethod yX8_votes, Cond.selects RX8 yX8_votes yX8_votes, Cond.code yX8_votes cX8_votes 4 (some .int), Cond.methodLink RX8 194 yX1_tally, Cond.instanceMethod yX1_tally, Cond.selects RX1 yX1_tally yX1_tally]
def wsL_law_r23 : List Cond := [Cond.code yX1_tally cX1_tally 4 (some .int), Cond.methodLink RL 68 yX9_votes, Cond.instanceMethod yX9_votes, Cond.selects RX9 yX9_votes yX9_votes, Cond.code yX9_votes cX9_votes 4 (some .int), Cond.methodLink RL 69 yX8_split, Cond.instanceMethod yX8_split, Cond.selects RX8 yX8_split yX8_split, Cond.code yX8_split cX8_split 4 (some .int), Cond.methodLink RL 73 yX9_split, Cond.instanceMethod yX9_split, Cond.selects RX9 yX9_split yX9_split, Cond.code yX9_split cX9_split 1 (some .int), Cond.methodLink RX9 213 yX9_splitNow, Cond.instanceMethod yX9_splitNow, Cond.selects RX9 yX9_splitNow yX9_splitNow, Cond.code yX9_splitNow cX9_splitNow 3 (some .int), Cond.methodLink RL 74 yX8_contract, Cond.instanceMethod yX8_contract, Cond.selects RX8 yX8_contract yX8_contract, Cond.code yX8_contract cX8_contract 8 (some .int), Cond.methodLink RL 78 yX9_contract, Cond.instanceMethod yX9_contract, Cond.selects RX9 yX9_contract yX9_contract]
def wsL_law_r24 : List Cond := [Cond.code yX9_contract cX9_contract 9 (some .int), Cond.methodLink RL 79 yX8_money, Cond.instanceMethod yX8_money, Cond.selects RX8 yX8_money yX8_money, Cond.code yX8_money cX8_money 3 (some .int), Cond.constant RX8 200 (-100002), Cond.methodLink RX8 201 yX8_moneyBehind, Cond.instanceMethod yX8_moneyBehind, Cond.selects RX8 yX8_moneyBehind yX8_moneyBehind, Cond.code yX8_moneyBehind cX8_moneyBehind 6 (some .int), Cond.fieldLink RX8 207 "PoundVotes$Rows" "rows" "[[I", Cond.methodLink RX8 413 yX8_paid, Cond.instanceMethod yX8_paid, Cond.selects RX8 yX8_paid yX8_paid, Cond.code yX8_paid cX8_paid 2 (some .int), Cond.methodLink RX8 211 yX8_paidBy, Cond.instanceMethod yX8_paidBy, Cond.selects RX8 yX8_paidBy yX8_paidBy, Cond.code yX8_paidBy cX8_paidBy 3 (some .int), Cond.methodLink RL 82 yX9_money, Cond.instanceMethod yX9_money, Cond.selects RX9 yX9_money yX9_money, Cond.code yX9_money cX9_money 3 (some .int), Cond.constant RX9 229 (-100002)]
def wsL_law_r25 : List Cond := [Cond.methodLink RX9 226 yX9_moneyOf, Cond.instanceMethod yX9_moneyOf, Cond.selects RX9 yX9_moneyOf yX9_moneyOf, Cond.code yX9_moneyOf cX9_moneyOf 5 (some .int), Cond.methodLink RX9 223 yX9_pays, Cond.instanceMethod yX9_pays, Cond.selects RX9 yX9_pays yX9_pays, Cond.code yX9_pays cX9_pays 2 (some .int), Cond.methodLink RX9 220 yX9_paysBy, Cond.instanceMethod yX9_paysBy, Cond.selects RX9 yX9_paysBy yX9_paysBy, Cond.code yX9_paysBy cX9_paysBy 3 (some .int), Cond.methodLink RL 83 yX8_ruined, Cond.instanceMethod yX8_ruined, Cond.selects RX8 yX8_ruined yX8_ruined, Cond.code yX8_ruined cX8_ruined 3 (some .int), Cond.methodLink RX8 204 yX8_firstRuin, Cond.instanceMethod yX8_firstRuin, Cond.selects RX8 yX8_firstRuin yX8_firstRuin, Cond.code yX8_firstRuin cX8_firstRuin 5 (some .int), Cond.methodLink RX8 314 arraycopyName, Cond.methodLink RL 86 yX9_ruined, Cond.instanceMethod yX9_ruined, Cond.selects RX9 yX9_ruined yX9_ruined]
def wsL_law_r26 : List Cond := [Cond.code yX9_ruined cX9_ruined 2 (some .int), Cond.methodLink RX9 230 yX9_ruinedOf, Cond.instanceMethod yX9_ruinedOf, Cond.selects RX9 yX9_ruinedOf yX9_ruinedOf, Cond.code yX9_ruinedOf cX9_ruinedOf 5 (some .int), Cond.methodLink RL 87 yX8_worst, Cond.instanceMethod yX8_worst, Cond.selects RX8 yX8_worst yX8_worst, Cond.code yX8_worst cX8_worst 3 (some .int), Cond.methodLink RL 90 yX9_worst, Cond.instanceMethod yX9_worst, Cond.selects RX9 yX9_worst yX9_worst, Cond.code yX9_worst cX9_worst 2 (some .int), Cond.methodLink RX9 236 yX9_worstOf, Cond.instanceMethod yX9_worstOf, Cond.selects RX9 yX9_worstOf yX9_worstOf, Cond.code yX9_worstOf cX9_worstOf 2 (some .int), Cond.methodLink RX9 233 yX9_amount, Cond.static yX9_amount, Cond.code yX9_amount cX9_amount 1 (some .int), Cond.methodLink RL 91 yX8_rest, Cond.instanceMethod yX8_rest, Cond.selects RX8 yX8_rest yX8_rest, Cond.code yX8_rest cX8_rest 2 (some .int)]
def wsL_law_r27 : List Cond := [Cond.methodLink RX8 218 yX0_isTold, Cond.instanceMethod yX0_isTold, Cond.selects RX0 yX0_isTold yX0_isTold, Cond.code yX0_isTold cX0_isTold 4 (some .boolean), Cond.fieldLink RX0 62 "PoundVotes$Roll" "parties" "I", Cond.methodLink RX0 54 yX0_players, Cond.instanceMethod yX0_players, Cond.selects RX0 yX0_players yX0_players, Cond.code yX0_players cX0_players 1 (some .int), Cond.fieldLink RX0 48 "PoundVotes$Roll" "voters" "I", Cond.methodLink RX0 58 yX0_toldParty, Cond.static yX0_toldParty, Cond.code yX0_toldParty cX0_toldParty 2 (some .int), Cond.methodLink RX8 221 yX0_isRest, Cond.instanceMethod yX0_isRest, Cond.selects RX0 yX0_isRest yX0_isRest, Cond.code yX0_isRest cX0_isRest 4 (some .boolean), Cond.methodLink RX0 65 yX0_prepare, Cond.instanceMethod yX0_prepare, Cond.selects RX0 yX0_prepare yX0_prepare, Cond.code yX0_prepare cX0_prepare 2 none, Cond.methodLink RX0 84 yJ7_fill_53178, Cond.methodLink RX0 90 yX2_fillGains, Cond.methodLink RX0 68 yX0_isContent]
def wsL_law_r28 : List Cond := [Cond.instanceMethod yX0_isContent, Cond.selects RX0 yX0_isContent yX0_isContent, Cond.code yX0_isContent cX0_isContent 7 (some .boolean), Cond.methodLink RL 94 yX9_rest, Cond.instanceMethod yX9_rest, Cond.selects RX9 yX9_rest yX9_rest, Cond.code yX9_rest cX9_rest 2 (some .int), Cond.constantLong RX9 255 (4095), Cond.methodLink RX9 257 yX9_restOf, Cond.instanceMethod yX9_restOf, Cond.selects RX9 yX9_restOf yX9_restOf, Cond.code yX9_restOf cX9_restOf 2 (some .int), Cond.methodLink RX9 245 yX9_chooses, Cond.instanceMethod yX9_chooses, Cond.selects RX9 yX9_chooses yX9_chooses, Cond.code yX9_chooses cX9_chooses 2 none, Cond.methodLink RX9 248 yX9_isRow, Cond.instanceMethod yX9_isRow, Cond.selects RX9 yX9_isRow yX9_isRow, Cond.code yX9_isRow cX9_isRow 4 (some .boolean), Cond.methodLink RX9 242 yX9_six, Cond.instanceMethod yX9_six, Cond.selects RX9 yX9_six yX9_six, Cond.code yX9_six cX9_six 1 (some .int)]
def wsL_law_r29 : List Cond := [Cond.methodLink RX9 251 yX9_isRest, Cond.instanceMethod yX9_isRest, Cond.selects RX9 yX9_isRest yX9_isRest, Cond.code yX9_isRest cX9_isRest 6 (some .boolean), Cond.methodLink RX9 239 yX9_mostTold, Cond.instanceMethod yX9_mostTold, Cond.selects RX9 yX9_mostTold yX9_mostTold, Cond.code yX9_mostTold cX9_mostTold 3 (some .int), Cond.methodLink RL 95 yX8_rests, Cond.instanceMethod yX8_rests, Cond.selects RX8 yX8_rests yX8_rests, Cond.code yX8_rests cX8_rests 1 (some .int), Cond.methodLink RX8 224 yX0_restfulRows, Cond.instanceMethod yX0_restfulRows, Cond.selects RX0 yX0_restfulRows yX0_restfulRows, Cond.code yX0_restfulRows cX0_restfulRows 1 (some .int), Cond.fieldLink RX0 72 "PoundVotes$Ballot" "restVersion" "I", Cond.fieldLink RX0 75 "PoundVotes$Roll" "version" "I", Cond.fieldLink RX0 81 "PoundVotes$Ballot" "restCount" "I", Cond.methodLink RX0 78 yX0_restsOfSpread, Cond.instanceMethod yX0_restsOfSpread, Cond.selects RX0 yX0_restsOfSpread yX0_restsOfSpread, Cond.code yX0_restsOfSpread cX0_restsOfSpread 5 (some .int), Cond.methodLink RX0 98 yX0_restsOfSums]
def wsL_law_r30 : List Cond := [Cond.instanceMethod yX0_restsOfSums, Cond.selects RX0 yX0_restsOfSums yX0_restsOfSums, Cond.code yX0_restsOfSums cX0_restsOfSums 5 (some .int), Cond.methodLink RX0 101 yX0_rowsFrom, Cond.instanceMethod yX0_rowsFrom, Cond.selects RX0 yX0_rowsFrom yX0_rowsFrom, Cond.code yX0_rowsFrom cX0_rowsFrom 4 (some .int), Cond.methodLink RL 98 yX9_rests, Cond.instanceMethod yX9_rests, Cond.selects RX9 yX9_rests yX9_rests, Cond.code yX9_rests cX9_rests 1 (some .int), Cond.methodLink RX9 260 yX9_restsNow, Cond.instanceMethod yX9_restsNow, Cond.selects RX9 yX9_restsNow yX9_restsNow, Cond.code yX9_restsNow cX9_restsNow 3 (some .int), Cond.methodLink RL 99 yX8_wins, Cond.instanceMethod yX8_wins, Cond.selects RX8 yX8_wins yX8_wins, Cond.code yX8_wins cX8_wins 3 (some .int), Cond.methodLink RX8 227 yX0_winningTicket, Cond.instanceMethod yX0_winningTicket, Cond.selects RX0 yX0_winningTicket yX0_winningTicket, Cond.code yX0_winningTicket cX0_winningTicket 2 (some .int), Cond.methodLink RX0 105 yX0_findWin]
def wsL_law_r31 : List Cond := [Cond.instanceMethod yX0_findWin, Cond.selects RX0 yX0_findWin yX0_findWin, Cond.code yX0_findWin cX0_findWin 5 none, Cond.methodLink RX0 109 yX0_fillSupport, Cond.instanceMethod yX0_fillSupport, Cond.selects RX0 yX0_fillSupport yX0_fillSupport, Cond.code yX0_fillSupport cX0_fillSupport 5 none, Cond.methodLink RX0 116 yX2_owed, Cond.methodLink RX0 119 yX2_unitOf, Cond.methodLink RX0 122 yX0_supportPlace, Cond.static yX0_supportPlace, Cond.code yX0_supportPlace cX0_supportPlace 2 (some .int), Cond.methodLink RX0 112 yX0_tryTicket, Cond.instanceMethod yX0_tryTicket, Cond.selects RX0 yX0_tryTicket yX0_tryTicket, Cond.code yX0_tryTicket cX0_tryTicket 7 none, Cond.methodLink RX0 129 Lib.Math.abs.name, Cond.methodLink RX0 125 yX2_figure, Cond.methodLink RX8 230 yX0_winningUnlikeness, Cond.instanceMethod yX0_winningUnlikeness, Cond.selects RX0 yX0_winningUnlikeness yX0_winningUnlikeness, Cond.code yX0_winningUnlikeness cX0_winningUnlikeness 2 (some .int), Cond.methodLink RL 102 yX9_wins, Cond.instanceMethod yX9_wins]
def wsL_law_r32 : List Cond := [Cond.selects RX9 yX9_wins yX9_wins, Cond.code yX9_wins cX9_wins 3 (some .int), Cond.methodLink RX9 271 yX9_findWish, Cond.instanceMethod yX9_findWish, Cond.selects RX9 yX9_findWish yX9_findWish, Cond.code yX9_findWish cX9_findWish 7 none, Cond.methodLink RX9 267 yX9_isElectedBy, Cond.instanceMethod yX9_isElectedBy, Cond.selects RX9 yX9_isElectedBy yX9_isElectedBy, Cond.code yX9_isElectedBy cX9_isElectedBy 5 (some .boolean), Cond.methodLink RX9 263 yX9_gainBy, Cond.instanceMethod yX9_gainBy, Cond.selects RX9 yX9_gainBy yX9_gainBy, Cond.code yX9_gainBy cX9_gainBy 7 (some .int), Cond.methodLink RL 103 yX8_hedge, Cond.instanceMethod yX8_hedge, Cond.selects RX8 yX8_hedge yX8_hedge, Cond.code yX8_hedge cX8_hedge 2 (some .int), Cond.methodLink RX8 233 yX0_evenHolding, Cond.instanceMethod yX0_evenHolding, Cond.selects RX0 yX0_evenHolding yX0_evenHolding, Cond.code yX0_evenHolding cX0_evenHolding 8 (some .int), Cond.methodLink RX0 134 yX0_fillOdds, Cond.instanceMethod yX0_fillOdds]
def wsL_law_r33 : List Cond := [Cond.selects RX0 yX0_fillOdds yX0_fillOdds, Cond.code yX0_fillOdds cX0_fillOdds 4 none, Cond.methodLink RX0 141 yX2_gain, Cond.methodLink RX0 137 yX0_isEven, Cond.instanceMethod yX0_isEven, Cond.selects RX0 yX0_isEven yX0_isEven, Cond.code yX0_isEven cX0_isEven 6 (some .boolean), Cond.methodLink RL 106 yX9_hedge, Cond.instanceMethod yX9_hedge, Cond.selects RX9 yX9_hedge yX9_hedge, Cond.code yX9_hedge cX9_hedge 2 (some .int), Cond.methodLink RX9 277 yX9_hedgeOf, Cond.instanceMethod yX9_hedgeOf, Cond.selects RX9 yX9_hedgeOf yX9_hedgeOf, Cond.code yX9_hedgeOf cX9_hedgeOf 8 (some .int), Cond.methodLink RX9 274 yX9_isHedged, Cond.instanceMethod yX9_isHedged, Cond.selects RX9 yX9_isHedged yX9_isHedged, Cond.code yX9_isHedged cX9_isHedged 9 (some .boolean), Cond.methodLink RL 107 yX8_worth, Cond.instanceMethod yX8_worth, Cond.selects RX8 yX8_worth yX8_worth, Cond.code yX8_worth cX8_worth 4 (some .long), Cond.constantLong RX8 239 (-9223372036854775806)]
def wsL_law_r34 : List Cond := [Cond.constantLong RX8 248 (-9223372036854775805), Cond.methodLink RX8 236 yX7_isKind, Cond.static yX7_isKind, Cond.code yX7_isKind cX7_isKind 1 (some .boolean), Cond.methodLink RX8 241 yX7_firstClash, Cond.instanceMethod yX7_firstClash, Cond.selects RX7 yX7_firstClash yX7_firstClash, Cond.code yX7_firstClash cX7_firstClash 5 (some .int), Cond.methodLink RX7 26 yX5_items, Cond.methodLink RX7 32 yX7_startAnew, Cond.instanceMethod yX7_startAnew, Cond.selects RX7 yX7_startAnew yX7_startAnew, Cond.code yX7_startAnew cX7_startAnew 2 none, Cond.methodLink RX7 35 yX7_takes, Cond.instanceMethod yX7_takes, Cond.selects RX7 yX7_takes yX7_takes, Cond.code yX7_takes cX7_takes 7 (some .boolean), Cond.methodLink RX7 49 yX5_byteOf, Cond.methodLink RX7 53 yX7_isTold, Cond.instanceMethod yX7_isTold, Cond.selects RX7 yX7_isTold yX7_isTold, Cond.code yX7_isTold cX7_isTold 3 (some .boolean), Cond.methodLink RX7 57 yX7_join, Cond.instanceMethod yX7_join]
def wsL_law_r35 : List Cond := [Cond.selects RX7 yX7_join yX7_join, Cond.code yX7_join cX7_join 17 none, Cond.static yX8_commonDivisor, Cond.code yX8_commonDivisor cX8_commonDivisor 11 (some .long), Cond.methodLink RX8 245 yX7_isTold, Cond.methodLink RX8 250 yX7_aboveOf, Cond.instanceMethod yX7_aboveOf, Cond.selects RX7 yX7_aboveOf yX7_aboveOf, Cond.code yX7_aboveOf cX7_aboveOf 7 (some .long), Cond.methodLink RL 111 yX9_worth, Cond.instanceMethod yX9_worth, Cond.selects RX9 yX9_worth yX9_worth, Cond.code yX9_worth cX9_worth 4 (some .long), Cond.constantLong RX9 301 (5), Cond.methodLink RX9 303 yX9_worthOf, Cond.instanceMethod yX9_worthOf, Cond.selects RX9 yX9_worthOf yX9_worthOf, Cond.code yX9_worthOf cX9_worthOf 8 (some .long), Cond.methodLink RX9 294 yX9_finds, Cond.instanceMethod yX9_finds, Cond.selects RX9 yX9_finds yX9_finds, Cond.code yX9_finds cX9_finds 8 (some .boolean), Cond.fieldLink RX9 284 "PoundVotesModel" "firstClash" "I", Cond.methodLink RX9 287 yX9_isIn]
def wsL_law_r36 : List Cond := [Cond.static yX9_isIn, Cond.code yX9_isIn cX9_isIn 2 (some .boolean), Cond.methodLink RX9 290 yX9_joins, Cond.instanceMethod yX9_joins, Cond.selects RX9 yX9_joins yX9_joins, Cond.code yX9_joins cX9_joins 14 none, Cond.methodLink RX9 280 yX9_common, Cond.static yX9_common, Cond.code yX9_common cX9_common 10 (some .long), Cond.methodLink RX9 297 yX9_no, Cond.static yX9_no, Cond.code yX9_no cX9_no 1 (some .long), Cond.constantLong RX9 86 (-9223372036854775808), Cond.methodLink RL 112 yX8_clash, Cond.instanceMethod yX8_clash, Cond.selects RX8 yX8_clash yX8_clash, Cond.code yX8_clash cX8_clash 1 (some .int), Cond.methodLink RL 115 yX9_clash, Cond.instanceMethod yX9_clash, Cond.selects RX9 yX9_clash yX9_clash, Cond.code yX9_clash cX9_clash 1 (some .int), Cond.methodLink RL 116 yX8_drop, Cond.instanceMethod yX8_drop, Cond.selects RX8 yX8_drop yX8_drop]
def wsL_law_r37 : List Cond := [Cond.code yX8_drop cX8_drop 1 (some .int), Cond.methodLink RX8 254 yX7_fewestDropped, Cond.instanceMethod yX7_fewestDropped, Cond.selects RX7 yX7_fewestDropped yX7_fewestDropped, Cond.code yX7_fewestDropped cX7_fewestDropped 5 (some .int), Cond.methodLink RX7 39 yJ6_bitCount_0f7a4, Cond.static yJ6_bitCount_0f7a4, Cond.initialized RJ6, Cond.code yJ6_bitCount_0f7a4 cJ6_bitCount_0f7a4 1 (some .int), Cond.constant RJ6 265 (1431655765), Cond.constant RJ6 266 (858993459), Cond.constant RJ6 267 (252645135), Cond.methodLink RX7 45 yX7_agreesWithout, Cond.instanceMethod yX7_agreesWithout, Cond.selects RX7 yX7_agreesWithout yX7_agreesWithout, Cond.code yX7_agreesWithout cX7_agreesWithout 5 (some .boolean), Cond.methodLink RL 119 yX9_drop, Cond.instanceMethod yX9_drop, Cond.selects RX9 yX9_drop yX9_drop, Cond.code yX9_drop cX9_drop 1 (some .int), Cond.methodLink RX9 310 yX9_dropNow, Cond.instanceMethod yX9_dropNow, Cond.selects RX9 yX9_dropNow yX9_dropNow, Cond.code yX9_dropNow cX9_dropNow 4 (some .int)]
def wsL_law_r38 : List Cond := [Cond.methodLink RX9 307 yX9_ones, Cond.static yX9_ones, Cond.code yX9_ones cX9_ones 3 (some .int), Cond.methodLink RL 120 yX8_rate, Cond.instanceMethod yX8_rate, Cond.selects RX8 yX8_rate yX8_rate, Cond.code yX8_rate cX8_rate 5 (some .int), Cond.methodLink RX8 257 yX6_isTown, Cond.static yX6_isTown, Cond.code yX6_isTown cX6_isTown 1 (some .boolean), Cond.methodLink RX8 260 yX6_replaceRate, Cond.instanceMethod yX6_replaceRate, Cond.selects RX6 yX6_replaceRate yX6_replaceRate, Cond.code yX6_replaceRate cX6_replaceRate 7 (some .int), Cond.methodLink RL 123 yX9_rate, Cond.instanceMethod yX9_rate, Cond.selects RX9 yX9_rate yX9_rate, Cond.code yX9_rate cX9_rate 7 (some .int), Cond.methodLink RL 124 yX8_round, Cond.instanceMethod yX8_round, Cond.selects RX8 yX8_round yX8_round, Cond.code yX8_round cX8_round 2 (some .int), Cond.fieldLink RX8 267 "PoundVotes$Towns" "bestAbove" "I", Cond.fieldLink RX8 270 "PoundVotes$Towns" "bestBelow" "I"]
def wsL_law_r39 : List Cond := [Cond.methodLink RX8 264 yX6_findRound, Cond.instanceMethod yX6_findRound, Cond.selects RX6 yX6_findRound yX6_findRound, Cond.code yX6_findRound cX6_findRound 3 none, Cond.fieldLink RX6 41 "PoundVotes$Towns" "bestLength" "I", Cond.methodLink RX6 44 yX6_goOn, Cond.instanceMethod yX6_goOn, Cond.selects RX6 yX6_goOn yX6_goOn, Cond.code yX6_goOn cX6_goOn 7 none, Cond.methodLink RX6 52 yX6_comeBack, Cond.instanceMethod yX6_comeBack, Cond.selects RX6 yX6_comeBack yX6_comeBack, Cond.code yX6_comeBack cX6_comeBack 4 none, Cond.methodLink RX6 60 arraycopyName, Cond.methodLink RX6 56 yX6_isOnWay, Cond.instanceMethod yX6_isOnWay, Cond.selects RX6 yX6_isOnWay yX6_isOnWay, Cond.code yX6_isOnWay cX6_isOnWay 4 (some .boolean), Cond.methodLink RX8 273 yX6_bestTown, Cond.instanceMethod yX6_bestTown, Cond.selects RX6 yX6_bestTown yX6_bestTown, Cond.code yX6_bestTown cX6_bestTown 2 (some .int), Cond.methodLink RL 127 yX9_round, Cond.instanceMethod yX9_round]
def wsL_law_r40 : List Cond := [Cond.selects RX9 yX9_round yX9_round, Cond.code yX9_round cX9_round 2 (some .int), Cond.constantLong RX9 328 (-2), Cond.methodLink RX9 330 yX9_findRound, Cond.instanceMethod yX9_findRound, Cond.selects RX9 yX9_findRound yX9_findRound, Cond.code yX9_findRound cX9_findRound 7 none, Cond.fieldLink RX9 316 "PoundVotesModel" "bestTowns" "I", Cond.fieldLink RX9 319 "PoundVotesModel" "bestAbove" "I", Cond.fieldLink RX9 322 "PoundVotesModel" "bestBelow" "I", Cond.methodLink RX9 313 yX9_digit, Cond.static yX9_digit, Cond.code yX9_digit cX9_digit 3 (some .int), Cond.methodLink RX9 325 yX9_isTour, Cond.static yX9_isTour, Cond.code yX9_isTour cX9_isTour 6 (some .boolean), Cond.methodLink RX9 333 yX9_tellsRound, Cond.instanceMethod yX9_tellsRound, Cond.selects RX9 yX9_tellsRound yX9_tellsRound, Cond.code yX9_tellsRound cX9_tellsRound 3 (some .int), Cond.methodLink RL 128 yX8_bill, Cond.instanceMethod yX8_bill, Cond.selects RX8 yX8_bill yX8_bill, Cond.code yX8_bill cX8_bill 5 (some .int)]
def wsL_law_r41 : List Cond := [Cond.methodLink RL 131 yX9_bill, Cond.instanceMethod yX9_bill, Cond.selects RX9 yX9_bill yX9_bill, Cond.code yX9_bill cX9_bill 4 (some .int), Cond.methodLink RL 132 yX8_years, Cond.instanceMethod yX8_years, Cond.selects RX8 yX8_years yX8_years, Cond.code yX8_years cX8_years 7 (some .int), Cond.methodLink RL 135 yX9_years, Cond.instanceMethod yX9_years, Cond.selects RX9 yX9_years yX9_years, Cond.code yX9_years cX9_years 1 (some .int), Cond.methodLink RX9 339 yX9_yearsNow, Cond.instanceMethod yX9_yearsNow, Cond.selects RX9 yX9_yearsNow yX9_yearsNow, Cond.code yX9_yearsNow cX9_yearsNow 5 (some .int), Cond.methodLink RL 136 yX8_sheet, Cond.instanceMethod yX8_sheet, Cond.selects RX8 yX8_sheet yX8_sheet, Cond.code yX8_sheet cX8_sheet 4 (some .int), Cond.methodLink RX8 276 yX4_isSheet, Cond.static yX4_isSheet, Cond.code yX4_isSheet cX4_isSheet 1 (some .boolean), Cond.methodLink RX8 279 yX4_isForm]
def wsL_law_r42 : List Cond := [Cond.static yX4_isForm, Cond.code yX4_isForm cX4_isForm 1 (some .boolean), Cond.methodLink RX8 282 yX8_find, Cond.instanceMethod yX8_find, Cond.selects RX8 yX8_find yX8_find, Cond.code yX8_find cX8_find 2 (some .int), Cond.methodLink RX8 285 yX4_begin, Cond.instanceMethod yX4_begin, Cond.selects RX4 yX4_begin yX4_begin, Cond.code yX4_begin cX4_begin 4 none, Cond.methodLink RL 139 yX9_sheet, Cond.instanceMethod yX9_sheet, Cond.selects RX9 yX9_sheet yX9_sheet, Cond.code yX9_sheet cX9_sheet 5 (some .int), Cond.methodLink RX9 98 yX9_isSheet, Cond.static yX9_isSheet, Cond.code yX9_isSheet cX9_isSheet 1 (some .boolean), Cond.methodLink RX9 104 yX9_met, Cond.instanceMethod yX9_met, Cond.selects RX9 yX9_met yX9_met, Cond.code yX9_met cX9_met 2 (some .int), Cond.fieldLink RX9 92 "PoundVotesModel" "latest" "I", Cond.methodLink RL 140 yX8_lose, Cond.instanceMethod yX8_lose]
def wsL_law_r43 : List Cond := [Cond.selects RX8 yX8_lose yX8_lose, Cond.code yX8_lose cX8_lose 3 (some .int), Cond.fieldLink RX8 292 "PoundVotes$Sheets" "sizes" "[I", Cond.methodLink RX8 289 yX4_isLost, Cond.instanceMethod yX4_isLost, Cond.selects RX4 yX4_isLost yX4_isLost, Cond.code yX4_isLost cX4_isLost 2 (some .boolean), Cond.methodLink RX8 295 yX4_forget, Cond.instanceMethod yX4_forget, Cond.selects RX4 yX4_forget yX4_forget, Cond.code yX4_forget cX4_forget 2 none, Cond.methodLink RL 143 yX9_lose, Cond.instanceMethod yX9_lose, Cond.selects RX9 yX9_lose yX9_lose, Cond.code yX9_lose cX9_lose 2 (some .int), Cond.methodLink RL 144 yX8_lay, Cond.instanceMethod yX8_lay, Cond.selects RX8 yX8_lay yX8_lay, Cond.code yX8_lay cX8_lay 6 (some .int), Cond.methodLink RX8 298 yX4_accessFinding, Cond.instanceMethod yX4_accessFinding, Cond.selects RX4 yX4_accessFinding yX4_accessFinding, Cond.code yX4_accessFinding cX4_accessFinding 4 (some .int), Cond.methodLink RX4 33 yX4_isLost]
def wsL_law_r44 : List Cond := [Cond.methodLink RX8 301 yX4_store, Cond.instanceMethod yX4_store, Cond.selects RX4 yX4_store yX4_store, Cond.code yX4_store cX4_store 4 none, Cond.methodLink RL 147 yX9_lay, Cond.instanceMethod yX9_lay, Cond.selects RX9 yX9_lay yX9_lay, Cond.code yX9_lay cX9_lay 6 (some .int), Cond.methodLink RX9 108 yX9_lacks, Cond.instanceMethod yX9_lacks, Cond.selects RX9 yX9_lacks yX9_lacks, Cond.code yX9_lacks cX9_lacks 4 (some .int), Cond.methodLink RX9 112 yX9_cut, Cond.static yX9_cut, Cond.code yX9_cut cX9_cut 2 (some .int), Cond.methodLink RL 148 yX8_get, Cond.instanceMethod yX8_get, Cond.selects RX8 yX8_get yX8_get, Cond.code yX8_get cX8_get 5 (some .int), Cond.constant RX8 304 (-2147483648), Cond.fieldLink RX8 305 "PoundVotes$Sheets" "items" "[[I", Cond.methodLink RL 151 yX9_get, Cond.instanceMethod yX9_get, Cond.selects RX9 yX9_get yX9_get]
def wsL_law_r45 : List Cond := [Cond.code yX9_get cX9_get 4 (some .int), Cond.constant RX9 116 (-2147483648), Cond.methodLink RL 152 yX8_copy, Cond.instanceMethod yX8_copy, Cond.selects RX8 yX8_copy yX8_copy, Cond.code yX8_copy cX8_copy 6 (some .int), Cond.fieldLink RX8 308 "PoundVotes$Sheets" "forms" "[I", Cond.methodLink RX8 311 yX4_hasItems, Cond.instanceMethod yX4_hasItems, Cond.selects RX4 yX4_hasItems yX4_hasItems, Cond.code yX4_hasItems cX4_hasItems 4 (some .boolean), Cond.methodLink RL 156 yX9_copy, Cond.instanceMethod yX9_copy, Cond.selects RX9 yX9_copy yX9_copy, Cond.code yX9_copy cX9_copy 7 (some .int), Cond.methodLink RL 157 yX8_read, Cond.instanceMethod yX8_read, Cond.selects RX8 yX8_read yX8_read, Cond.code yX8_read cX8_read 5 (some .int), Cond.methodLink RX8 320 Lib.Math.min.name, Cond.static Lib.Math.min.name, Cond.code Lib.Math.min.name Lib.Math.min.code 2 (some .int), Cond.methodLink RL 160 yX9_read, Cond.instanceMethod yX9_read]
def wsL_law_r46 : List Cond := [Cond.selects RX9 yX9_read yX9_read, Cond.code yX9_read cX9_read 3 (some .int), Cond.methodLink RX9 342 yX9_purse, Cond.methodLink RL 161 yX8_write, Cond.instanceMethod yX8_write, Cond.selects RX8 yX8_write yX8_write, Cond.code yX8_write cX8_write 5 (some .int), Cond.methodLink RL 164 yX9_write, Cond.instanceMethod yX9_write, Cond.selects RX9 yX9_write yX9_write, Cond.code yX9_write cX9_write 5 (some .int), Cond.methodLink RL 165 yX8_count, Cond.instanceMethod yX8_count, Cond.selects RX8 yX8_count yX8_count, Cond.code yX8_count cX8_count 2 (some .int), Cond.methodLink RX8 323 yX5_items, Cond.methodLink RL 168 yX9_count, Cond.instanceMethod yX9_count, Cond.selects RX9 yX9_count yX9_count, Cond.code yX9_count cX9_count 2 (some .int), Cond.methodLink RL 169 yX8_digest, Cond.instanceMethod yX8_digest, Cond.selects RX8 yX8_digest yX8_digest, Cond.code yX8_digest cX8_digest 4 (some .long)]
def wsL_law_r47 : List Cond := [Cond.constantLong RX8 325 (17), Cond.methodLink RX8 327 yX8_count, Cond.methodLink RX8 330 yX8_mix, Cond.static yX8_mix, Cond.code yX8_mix cX8_mix 4 (some .long), Cond.constantLong RX8 405 (31), Cond.methodLink RX8 334 yX8_fault, Cond.methodLink RX8 337 yX8_mixYears, Cond.instanceMethod yX8_mixYears, Cond.selects RX8 yX8_mixYears yX8_mixYears, Cond.code yX8_mixYears cX8_mixYears 11 (some .long), Cond.fieldLink RX8 356 "PoundVotes" "DIGEST_YEARS" "[I", Cond.methodLink RX8 359 yX8_elected, Cond.methodLink RX8 362 yX8_great, Cond.methodLink RX8 365 yX8_ticket, Cond.methodLink RX8 368 yX8_votes, Cond.methodLink RX8 371 yX8_split, Cond.methodLink RX8 341 yX8_mixPeople, Cond.instanceMethod yX8_mixPeople, Cond.selects RX8 yX8_mixPeople yX8_mixPeople, Cond.code yX8_mixPeople cX8_mixPeople 6 (some .long), Cond.methodLink RX8 374 yX8_money, Cond.methodLink RX8 377 yX8_hedge, Cond.methodLink RX8 380 yX8_ruined]
def wsL_law_r48 : List Cond := [Cond.methodLink RX8 383 yX8_worst, Cond.methodLink RX8 344 yX8_mixVotes, Cond.instanceMethod yX8_mixVotes, Cond.selects RX8 yX8_mixVotes yX8_mixVotes, Cond.code yX8_mixVotes cX8_mixVotes 6 (some .long), Cond.methodLink RX8 386 yX8_rest, Cond.methodLink RX8 389 yX8_rests, Cond.methodLink RX8 392 yX8_wins, Cond.methodLink RX8 347 yX8_mixRatios, Cond.instanceMethod yX8_mixRatios, Cond.selects RX8 yX8_mixRatios yX8_mixRatios, Cond.code yX8_mixRatios cX8_mixRatios 6 (some .long), Cond.methodLink RX8 395 yX8_worth, Cond.methodLink RX8 399 yX8_clash, Cond.methodLink RX8 402 yX8_drop, Cond.methodLink RX8 350 yX8_round, Cond.methodLink RX8 353 yX8_years, Cond.methodLink RL 173 yX9_digest, Cond.instanceMethod yX9_digest, Cond.selects RX9 yX9_digest yX9_digest, Cond.code yX9_digest cX9_digest 7 (some .long), Cond.constantLong RX9 345 (17), Cond.constantLong RX9 347 (31), Cond.methodLink RX9 349 yX9_count]
def wsL_law_r49 : List Cond := [Cond.methodLink RX9 352 yX9_hedge, Cond.methodLink RX9 355 yX9_rest, Cond.methodLink RX9 358 yX9_worth, Cond.methodLink RX9 361 yX9_clash]
def wsL_law : List Cond := (wsL_law_r1 ++ (wsL_law_r2 ++ (wsL_law_r3 ++ (wsL_law_r4 ++ (wsL_law_r5 ++ (wsL_law_r6 ++ (wsL_law_r7 ++ (wsL_law_r8 ++ (wsL_law_r9 ++ (wsL_law_r10 ++ (wsL_law_r11 ++ (wsL_law_r12 ++ (wsL_law_r13 ++ (wsL_law_r14 ++ (wsL_law_r15 ++ (wsL_law_r16 ++ (wsL_law_r17 ++ (wsL_law_r18 ++ (wsL_law_r19 ++ (wsL_law_r20 ++ (wsL_law_r21 ++ (wsL_law_r22 ++ (wsL_law_r23 ++ (wsL_law_r24 ++ (wsL_law_r25 ++ (wsL_law_r26 ++ (wsL_law_r27 ++ (wsL_law_r28 ++ (wsL_law_r29 ++ (wsL_law_r30 ++ (wsL_law_r31 ++ (wsL_law_r32 ++ (wsL_law_r33 ++ (wsL_law_r34 ++ (wsL_law_r35 ++ (wsL_law_r36 ++ (wsL_law_r37 ++ (wsL_law_r38 ++ (wsL_law_r39 ++ (wsL_law_r40 ++ (wsL_law_r41 ++ (wsL_law_r42 ++ (wsL_law_r43 ++ (wsL_law_r44 ++ (wsL_law_r45 ++ (wsL_law_r46 ++ (wsL_law_r47 ++ (wsL_law_r48 ++ wsL_law_r49)))))))))))))))))))))))))))))))))))))))))))))))) ++ wsX80 ++ wsX90 ++ wsX50 ++ wsX30 ++ wsX20 ++ wsX10 ++ wsX00 ++ wsX70 ++ wsX60 ++ wsX40 ++ ([] : List Cond)
theorem inlX0 : ∀ w ∈ wsX00, w ∈ wsL_law := fun _ h => List.mem_append_left _ (List.mem_append_left _ (List.mem_append_left _ (List.mem_append_left _ (List.mem_append_right _ h))))
theorem inlX1 : ∀ w ∈ wsX10, w ∈ wsL_law := fun _ h => List.mem_append_left _ (List.mem_append_left _ (List.mem_append_left _ (List.mem_append_left _ (List.mem_append_left _ (List.mem_append_right _ h)))))
theorem inlX2 : ∀ w ∈ wsX20, w ∈ wsL_law := fun _ h => List.mem_append_left _ (List.mem_append_left _ (List.mem_append_left _ (List.mem_append_left _ (List.mem_append_left _ (List.mem_append_left _ (List.mem_append_right _ h))))))
theorem inlX3 : ∀ w ∈ wsX30, w ∈ wsL_law := fun _ h => List.mem_append_left _ (List.mem_append_left _ (List.mem_append_left _ (List.mem_append_left _ (List.mem_append_left _ (List.mem_append_left _ (List.mem_append_left _ (List.mem_append_right _ h)))))))
theorem inlX4 : ∀ w ∈ wsX40, w ∈ wsL_law := fun _ h => List.mem_append_left _ (List.mem_append_right _ h)
theorem inlX5 : ∀ w ∈ wsX50, w ∈ wsL_law := fun _ h => List.mem_append_left _ (List.mem_append_left _ (List.mem_append_left _ (List.mem_append_left _ (List.mem_append_left _ (List.mem_append_left _ (List.mem_append_left _ (List.mem_append_left _ (List.mem_append_right _ h))))))))
theorem inlX6 : ∀ w ∈ wsX60, w ∈ wsL_law := fun _ h => List.mem_append_left _ (List.mem_append_left _ (List.mem_append_right _ h))
theorem inlX7 : ∀ w ∈ wsX70, w ∈ wsL_law := fun _ h => List.mem_append_left _ (List.mem_append_left _ (List.mem_append_left _ (List.mem_append_right _ h)))
theorem inlX8 : ∀ w ∈ wsX80, w ∈ wsL_law := fun _ h => List.mem_append_left _ (List.mem_append_left _ (List.mem_append_left _ (List.mem_append_left _ (List.mem_append_left _ (List.mem_append_left _ (List.mem_append_left _ (List.mem_append_left _ (List.mem_append_left _ (List.mem_append_left _ (List.mem_append_right _ h))))))))))
theorem inlX9 : ∀ w ∈ wsX90, w ∈ wsL_law := fun _ h => List.mem_append_left _ (List.mem_append_left _ (List.mem_append_left _ (List.mem_append_left _ (List.mem_append_left _ (List.mem_append_left _ (List.mem_append_left _ (List.mem_append_left _ (List.mem_append_left _ (List.mem_append_right _ h)))))))))
/-- the words that every method of the run has -/
abbrev UW : List Cond := wsL_law
set_option maxRecDepth 20000 in
theorem UW_good : wsL_law.all goodWord = true := by decide +kernel
theorem uw_r1 : ∀ w ∈ wsL_law_r1, w ∈ UW := fun _ h => List.mem_append_left _ (List.mem_append_left _ (List.mem_append_left _ (List.mem_append_left _ (List.mem_append_left _ (List.mem_append_left _ (List.mem_append_left _ (List.mem_append_left _ (List.mem_append_left _ (List.mem_append_left _ (List.mem_append_left _ (List.mem_append_left _ h)))))))))))
theorem uw_r2 : ∀ w ∈ wsL_law_r2, w ∈ UW := fun _ h => List.mem_append_left _ (List.mem_append_left _ (List.mem_append_left _ (List.mem_append_left _ (List.mem_append_left _ (List.mem_append_left _ (List.mem_append_left _ (List.mem_append_left _ (List.mem_append_left _ (List.mem_append_left _ (List.mem_append_left _ (List.mem_append_right _ (List.mem_append_left _ h))))))))))))
theorem uw_r3 : ∀ w ∈ wsL_law_r3, w ∈ UW := fun _ h => List.mem_append_left _ (List.mem_append_left _ (List.mem_append_left _ (List.mem_append_left _ (List.mem_append_left _ (List.mem_append_left _ (List.mem_append_left _ (List.mem_append_left _ (List.mem_append_left _ (List.mem_append_left _ (List.mem_append_left _ (List.mem_append_right _ (List.mem_append_right _ (List.mem_append_left _ h)))))))))))))
theorem uw_r4 : ∀ w ∈ wsL_law_r4, w ∈ UW := fun _ h => List.mem_append_left _ (List.mem_append_left _ (List.mem_append_left _ (List.mem_append_left _ (List.mem_append_left _ (List.mem_append_left _ (List.mem_append_left _ (List.mem_append_left _ (List.mem_append_left _ (List.mem_append_left _ (List.mem_append_left _ (List.mem_append_right _ (List.mem_append_right _ (List.mem_append_right _ (List.mem_append_left _ h))))))))))))))
theorem uw_r5 : ∀ w ∈ wsL_law_r5, w ∈ UW := fun _ h => List.mem_append_left _ (List.mem_append_left _ (List.mem_append_left _ (List.mem_append_left _ (List.mem_append_left _ (List.mem_append_left _ (List.mem_append_left _ (List.mem_append_left _ (List.mem_append_left _ (List.mem_append_left _ (List.mem_append_left _ (List.mem_append_right _ (List.mem_append_right _ (List.mem_append_right _ (List.mem_append_right _ (List.mem_append_left _ h)))))))))))))))
theorem uw_r6 : ∀ w ∈ wsL_law_r6, w ∈ UW := fun _ h => List.mem_append_left _ (List.mem_append_left _ (List.mem_append_left _ (List.mem_append_left _ (List.mem_append_left _ (List.mem_append_left _ (List.mem_append_left _ (List.mem_append_left _ (List.mem_append_left _ (List.mem_append_left _ (List.mem_append_left _ (List.mem_append_right _ (List.mem_append_right _ (List.mem_append_right _ (List.mem_append_right _ (List.mem_append_right _ (List.mem_append_left _ h))))))))))))))))
theorem uw_r7 : ∀ w ∈ wsL_law_r7, w ∈ UW := fun _ h => List.mem_append_left _ (List.mem_append_left _ (List.mem_append_left _ (List.mem_append_left _ (List.mem_append_left _ (List.mem_append_left _ (List.mem_append_left _ (List.mem_append_left _ (List.mem_append_left _ (List.mem_append_left _ (List.mem_append_left _ (List.mem_append_right _ (List.mem_append_right _ (List.mem_append_right _ (List.mem_append_right _ (List.mem_append_right _ (List.mem_append_right _ (List.mem_append_left _ h)))))))))))))))))
theorem uw_r8 : ∀ w ∈ wsL_law_r8, w ∈ UW := fun _ h => List.mem_append_left _ (List.mem_append_left _ (List.mem_append_left _ (List.mem_append_left _ (List.mem_append_left _ (List.mem_append_left _ (List.mem_append_left _ (List.mem_append_left _ (List.mem_append_left _ (List.mem_append_left _ (List.mem_append_left _ (List.mem_append_right _ (List.mem_append_right _ (List.mem_append_right _ (List.mem_append_right _ (List.mem_append_right _ (List.mem_append_right _ (List.mem_append_right _ (List.mem_append_left _ h))))))))))))))))))
theorem uw_r9 : ∀ w ∈ wsL_law_r9, w ∈ UW := fun _ h => List.mem_append_left _ (List.mem_append_left _ (List.mem_append_left _ (List.mem_append_left _ (List.mem_append_left _ (List.mem_append_left _ (List.mem_append_left _ (List.mem_append_left _ (List.mem_append_left _ (List.mem_append_left _ (List.mem_append_left _ (List.mem_append_right _ (List.mem_append_right _ (List.mem_append_right _ (List.mem_append_right _ (List.mem_append_right _ (List.mem_append_right _ (List.mem_append_right _ (List.mem_append_right _ (List.mem_append_left _ h)))))))))))))))))))
theorem uw_r10 : ∀ w ∈ wsL_law_r10, w ∈ UW := fun _ h => List.mem_append_left _ (List.mem_append_left _ (List.mem_append_left _ (List.mem_append_left _ (List.mem_append_left _ (List.mem_append_left _ (List.mem_append_left _ (List.mem_append_left _ (List.mem_append_left _ (List.mem_append_left _ (List.mem_append_left _ (List.mem_append_right _ (List.mem_append_right _ (List.mem_append_right _ (List.mem_append_right _ (List.mem_append_right _ (List.mem_append_right _ (List.mem_append_right _ (List.mem_append_right _ (List.mem_append_right _ (List.mem_append_left _ h))))))))))))))))))))
theorem uw_r11 : ∀ w ∈ wsL_law_r11, w ∈ UW := fun _ h => List.mem_append_left _ (List.mem_append_left _ (List.mem_append_left _ (List.mem_append_left _ (List.mem_append_left _ (List.mem_append_left _ (List.mem_append_left _ (List.mem_append_left _ (List.mem_append_left _ (List.mem_append_left _ (List.mem_append_left _ (List.mem_append_right _ (List.mem_append_right _ (List.mem_append_right _ (List.mem_append_right _ (List.mem_append_right _ (List.mem_append_right _ (List.mem_append_right _ (List.mem_append_right _ (List.mem_append_right _ (List.mem_append_right _ (List.mem_append_left _ h)))))))))))))))))))))
theorem uw_r12 : ∀ w ∈ wsL_law_r12, w ∈ UW := fun _ h => List.mem_append_left _ (List.mem_append_left _ (List.mem_append_left _ (List.mem_append_left _ (List.mem_append_left _ (List.mem_append_left _ (List.mem_append_left _ (List.mem_append_left _ (List.mem_append_left _ (List.mem_append_left _ (List.mem_append_left _ (List.mem_append_right _ (List.mem_append_right _ (List.mem_append_right _ (List.mem_append_right _ (List.mem_append_right _ (List.mem_append_right _ (List.mem_append_right _ (List.mem_append_right _ (List.mem_append_right _ (List.mem_append_right _ (List.mem_append_right _ (List.mem_append_left _ h))))))))))))))))))))))
theorem uw_r13 : ∀ w ∈ wsL_law_r13, w ∈ UW := fun _ h => List.mem_append_left _ (List.mem_append_left _ (List.mem_append_left _ (List.mem_append_left _ (List.mem_append_left _ (List.mem_append_left _ (List.mem_append_left _ (List.mem_append_left _ (List.mem_append_left _ (List.mem_append_left _ (List.mem_append_left _ (List.mem_append_right _ (List.mem_append_right _ (List.mem_append_right _ (List.mem_append_right _ (List.mem_append_right _ (List.mem_append_right _ (List.mem_append_right _ (List.mem_append_right _ (List.mem_append_right _ (List.mem_append_right _ (List.mem_append_right _ (List.mem_append_right _ (List.mem_append_left _ h)))))))))))))))))))))))
theorem uw_r14 : ∀ w ∈ wsL_law_r14, w ∈ UW := fun _ h => List.mem_append_left _ (List.mem_append_left _ (List.mem_append_left _ (List.mem_append_left _ (List.mem_append_left _ (List.mem_append_left _ (List.mem_append_left _ (List.mem_append_left _ (List.mem_append_left _ (List.mem_append_left _ (List.mem_append_left _ (List.mem_append_right _ (List.mem_append_right _ (List.mem_append_right _ (List.mem_append_right _ (List.mem_append_right _ (List.mem_append_right _ (List.mem_append_right _ (List.mem_append_right _ (List.mem_append_right _ (List.mem_append_right _ (List.mem_append_right _ (List.mem_append_right _ (List.mem_append_right _ (List.mem_append_left _ h))))))))))))))))))))))))
theorem uw_r15 : ∀ w ∈ wsL_law_r15, w ∈ UW := fun _ h => List.mem_append_left _ (List.mem_append_left _ (List.mem_append_left _ (List.mem_append_left _ (List.mem_append_left _ (List.mem_append_left _ (List.mem_append_left _ (List.mem_append_left _ (List.mem_append_left _ (List.mem_append_left _ (List.mem_append_left _ (List.mem_append_right _ (List.mem_append_right _ (List.mem_append_right _ (List.mem_append_right _ (List.mem_append_right _ (List.mem_append_right _ (List.mem_append_right _ (List.mem_append_right _ (List.mem_append_right _ (List.mem_append_right _ (List.mem_append_right _ (List.mem_append_right _ (List.mem_append_right _ (List.mem_append_right _ (List.mem_append_left _ h)))))))))))))))))))))))))
theorem uw_r16 : ∀ w ∈ wsL_law_r16, w ∈ UW := fun _ h => List.mem_append_left _ (List.mem_append_left _ (List.mem_append_left _ (List.mem_append_left _ (List.mem_append_left _ (List.mem_append_left _ (List.mem_append_left _ (List.mem_append_left _ (List.mem_append_left _ (List.mem_append_left _ (List.mem_append_left _ (List.mem_append_right _ (List.mem_append_right _ (List.mem_append_right _ (List.mem_append_right _ (List.mem_append_right _ (List.mem_append_right _ (List.mem_append_right _ (List.mem_append_right _ (List.mem_append_right _ (List.mem_append_right _ (List.mem_append_right _ (List.mem_append_right _ (List.mem_append_right _ (List.mem_append_right _ (List.mem_append_right _ (List.mem_append_left _ h))))))))))))))))))))))))))
theorem uw_r17 : ∀ w ∈ wsL_law_r17, w ∈ UW := fun _ h => List.mem_append_left _ (List.mem_append_left _ (List.mem_append_left _ (List.mem_append_left _ (List.mem_append_left _ (List.mem_append_left _ (List.mem_append_left _ (List.mem_append_left _ (List.mem_append_left _ (List.mem_append_left _ (List.mem_append_left _ (List.mem_append_right _ (List.mem_append_right _ (List.mem_append_right _ (List.mem_append_right _ (List.mem_append_right _ (List.mem_append_right _ (List.mem_append_right _ (List.mem_append_right _ (List.mem_append_right _ (List.mem_append_right _ (List.mem_append_right _ (List.mem_append_right _ (List.mem_append_right _ (List.mem_append_right _ (List.mem_append_right _ (List.mem_append_right _ (List.mem_append_left _ h)))))))))))))))))))))))))))
theorem uw_r18 : ∀ w ∈ wsL_law_r18, w ∈ UW := fun _ h => List.mem_append_left _ (List.mem_append_left _ (List.mem_append_left _ (List.mem_append_left _ (List.mem_append_left _ (List.mem_append_left _ (List.mem_append_left _ (List.mem_append_left _ (List.mem_append_left _ (List.mem_append_left _ (List.mem_append_left _ (List.mem_append_right _ (List.mem_append_right _ (List.mem_append_right _ (List.mem_append_right _ (List.mem_append_right _ (List.mem_append_right _ (List.mem_append_right _ (List.mem_append_right _ (List.mem_append_right _ (List.mem_append_right _ (List.mem_append_right _ (List.mem_append_right _ (List.mem_append_right _ (List.mem_append_right _ (List.mem_append_right _ (List.mem_append_right _ (List.mem_append_right _ (List.mem_append_left _ h))))))))))))))))))))))))))))
theorem uw_r19 : ∀ w ∈ wsL_law_r19, w ∈ UW := fun _ h => List.mem_append_left _ (List.mem_append_left _ (List.mem_append_left _ (List.mem_append_left _ (List.mem_append_left _ (List.mem_append_left _ (List.mem_append_left _ (List.mem_append_left _ (List.mem_append_left _ (List.mem_append_left _ (List.mem_append_left _ (List.mem_append_right _ (List.mem_append_right _ (List.mem_append_right _ (List.mem_append_right _ (List.mem_append_right _ (List.mem_append_right _ (List.mem_append_right _ (List.mem_append_right _ (List.mem_append_right _ (List.mem_append_right _ (List.mem_append_right _ (List.mem_append_right _ (List.mem_append_right _ (List.mem_append_right _ (List.mem_append_right _ (List.mem_append_right _ (List.mem_append_right _ (List.mem_append_right _ (List.mem_append_left _ h)))))))))))))))))))))))))))))
theorem uw_r20 : ∀ w ∈ wsL_law_r20, w ∈ UW := fun _ h => List.mem_append_left _ (List.mem_append_left _ (List.mem_append_left _ (List.mem_append_left _ (List.mem_append_left _ (List.mem_append_left _ (List.mem_append_left _ (List.mem_append_left _ (List.mem_append_left _ (List.mem_append_left _ (List.mem_append_left _ (List.mem_append_right _ (List.mem_append_right _ (List.mem_append_right _ (List.mem_append_right _ (List.mem_append_right _ (List.mem_append_right _ (List.mem_append_right _ (List.mem_append_right _ (List.mem_append_right _ (List.mem_append_right _ (List.mem_append_right _ (List.mem_append_right _ (List.mem_append_right _ (List.mem_append_right _ (List.mem_append_right _ (List.mem_append_right _ (List.mem_append_right _ (List.mem_append_right _ (List.mem_append_right _ (List.mem_append_left _ h))))))))))))))))))))))))))))))
theorem uw_r21 : ∀ w ∈ wsL_law_r21, w ∈ UW := fun _ h => List.mem_append_left _ (List.mem_append_left _ (List.mem_append_left _ (List.mem_append_left _ (List.mem_append_left _ (List.mem_append_left _ (List.mem_append_left _ (List.mem_append_left _ (List.mem_append_left _ (List.mem_append_left _ (List.mem_append_left _ (List.mem_append_right _ (List.mem_append_right _ (List.mem_append_right _ (List.mem_append_right _ (List.mem_append_right _ (List.mem_append_right _ (List.mem_append_right _ (List.mem_append_right _ (List.mem_append_right _ (List.mem_append_right _ (List.mem_append_right _ (List.mem_append_right _ (List.mem_append_right _ (List.mem_append_right _ (List.mem_append_right _ (List.mem_append_right _ (List.mem_append_right _ (List.mem_append_right _ (List.mem_append_right _ (List.mem_append_right _ (List.mem_append_left _ h)))))))))))))))))))))))))))))))
theorem uw_r22 : ∀ w ∈ wsL_law_r22, w ∈ UW := fun _ h => List.mem_append_left _ (List.mem_append_left _ (List.mem_append_left _ (List.mem_append_left _ (List.mem_append_left _ (List.mem_append_left _ (List.mem_append_left _ (List.mem_append_left _ (List.mem_append_left _ (List.mem_append_left _ (List.mem_append_left _ (List.mem_append_right _ (List.mem_append_right _ (List.mem_append_right _ (List.mem_append_right _ (List.mem_append_right _ (List.mem_append_right _ (List.mem_append_right _ (List.mem_append_right _ (List.mem_append_right _ (List.mem_append_right _ (List.mem_append_right _ (List.mem_append_right _ (List.mem_append_right _ (List.mem_append_right _ (List.mem_append_right _ (List.mem_append_right _ (List.mem_append_right _ (List.mem_append_right _ (List.mem_append_right _ (List.mem_append_right _ (List.mem_append_right _ (List.mem_append_left _ h))))))))))))))))))))))))))))))))
theorem uw_r23 : ∀ w ∈ wsL_law_r23, w ∈ UW := fun _ h => List.mem_append_left _ (List.mem_append_left _ (List.mem_append_left _ (List.mem_append_left _ (List.mem_append_left _ (List.mem_append_left _ (List.mem_append_left _ (List.mem_append_left _ (List.mem_append_left _ (List.mem_append_left _ (List.mem_append_left _ (List.mem_append_right _ (List.mem_append_right _ (List.mem_append_right _ (List.mem_append_right _ (List.mem_append_right _ (List.mem_append_right _ (List.mem_append_right _ (List.mem_append_right _ (List.mem_append_right _ (List.mem_append_right _ (List.mem_append_right _ (List.mem_append_right _ (List.mem_append_right _ (List.mem_append_right _ (List.mem_append_right _ (List.mem_append_right _ (List.mem_append_right _ (List.mem_append_right _ (List.mem_append_right _ (List.mem_append_right _ (List.mem_append_right _ (List.mem_append_right _ (List.mem_append_left _ h)))))))))))))))))))))))))))))))))
theorem uw_r24 : ∀ w ∈ wsL_law_r24, w ∈ UW := fun _ h => List.mem_append_left _ (List.mem_append_left _ (List.mem_append_left _ (List.mem_append_left _ (List.mem_append_left _ (List.mem_append_left _ (List.mem_append_left _ (List.mem_append_left _ (List.mem_append_left _ (List.mem_append_left _ (List.mem_append_left _ (List.mem_append_right _ (List.mem_append_right _ (List.mem_append_right _ (List.mem_append_right _ (List.mem_append_right _ (List.mem_append_right _ (List.mem_append_right _ (List.mem_append_right _ (List.mem_append_right _ (List.mem_append_right _ (List.mem_append_right _ (List.mem_append_right _ (List.mem_append_right _ (List.mem_append_right _ (List.mem_append_right _ (List.mem_append_right _ (List.mem_append_right _ (List.mem_append_right _ (List.mem_append_right _ (List.mem_append_right _ (List.mem_append_right _ (List.mem_append_right _ (List.mem_append_right _ (List.mem_append_left _ h))))))))))))))))))))))))))))))))))
theorem uw_r25 : ∀ w ∈ wsL_law_r25, w ∈ UW := fun _ h => List.mem_append_left _ (List.mem_append_left _ (List.mem_append_left _ (List.mem_append_left _ (List.mem_append_left _ (List.mem_append_left _ (List.mem_append_left _ (List.mem_append_left _ (List.mem_append_left _ (List.mem_append_left _ (List.mem_append_left _ (List.mem_append_right _ (List.mem_append_right _ (List.mem_append_right _ (List.mem_append_right _ (List.mem_append_right _ (List.mem_append_right _ (List.mem_append_right _ (List.mem_append_right _ (List.mem_append_right _ (List.mem_append_right _ (List.mem_append_right _ (List.mem_append_right _ (List.mem_append_right _ (List.mem_append_right _ (List.mem_append_right _ (List.mem_append_right _ (List.mem_append_right _ (List.mem_append_right _ (List.mem_append_right _ (List.mem_append_right _ (List.mem_append_right _ (List.mem_append_right _ (List.mem_append_right _ (List.mem_append_right _ (List.mem_append_left _ h)))))))))))))))))))))))))))))))))))
theorem uw_r26 : ∀ w ∈ wsL_law_r26, w ∈ UW := fun _ h => List.mem_append_left _ (List.mem_append_left _ (List.mem_append_left _ (List.mem_append_left _ (List.mem_append_left _ (List.mem_append_left _ (List.mem_append_left _ (List.mem_append_left _ (List.mem_append_left _ (List.mem_append_left _ (List.mem_append_left _ (List.mem_append_right _ (List.mem_append_right _ (List.mem_append_right _ (List.mem_append_right _ (List.mem_append_right _ (List.mem_append_right _ (List.mem_append_right _ (List.mem_append_right _ (List.mem_append_right _ (List.mem_append_right _ (List.mem_append_right _ (List.mem_append_right _ (List.mem_append_right _ (List.mem_append_right _ (List.mem_append_right _ (List.mem_append_right _ (List.mem_append_right _ (List.mem_append_right _ (List.mem_append_right _ (List.mem_append_right _ (List.mem_append_right _ (List.mem_append_right _ (List.mem_append_right _ (List.mem_append_right _ (List.mem_append_right _ (List.mem_append_left _ h))))))))))))))))))))))))))))))))))))
theorem uw_r27 : ∀ w ∈ wsL_law_r27, w ∈ UW := fun _ h => List.mem_append_left _ (List.mem_append_left _ (List.mem_append_left _ (List.mem_append_left _ (List.mem_append_left _ (List.mem_append_left _ (List.mem_append_left _ (List.mem_append_left _ (List.mem_append_left _ (List.mem_append_left _ (List.mem_append_left _ (List.mem_append_right _ (List.mem_append_right _ (List.mem_append_right _ (List.mem_append_right _ (List.mem_append_right _ (List.mem_append_right _ (List.mem_append_right _ (List.mem_append_right _ (List.mem_append_right _ (List.mem_append_right _ (List.mem_append_right _ (List.mem_append_right _ (List.mem_append_right _ (List.mem_append_right _ (List.mem_append_right _ (List.mem_append_right _ (List.mem_append_right _ (List.mem_append_right _ (List.mem_append_right _ (List.mem_append_right _ (List.mem_append_right _ (List.mem_append_right _ (List.mem_append_right _ (List.mem_append_right _ (List.mem_append_right _ (List.mem_append_right _ (List.mem_append_left _ h)))))))))))))))))))))))))))))))))))))
theorem uw_r28 : ∀ w ∈ wsL_law_r28, w ∈ UW := fun _ h => List.mem_append_left _ (List.mem_append_left _ (List.mem_append_left _ (List.mem_append_left _ (List.mem_append_left _ (List.mem_append_left _ (List.mem_append_left _ (List.mem_append_left _ (List.mem_append_left _ (List.mem_append_left _ (List.mem_append_left _ (List.mem_append_right _ (List.mem_append_right _ (List.mem_append_right _ (List.mem_append_right _ (List.mem_append_right _ (List.mem_append_right _ (List.mem_append_right _ (List.mem_append_right _ (List.mem_append_right _ (List.mem_append_right _ (List.mem_append_right _ (List.mem_append_right _ (List.mem_append_right _ (List.mem_append_right _ (List.mem_append_right _ (List.mem_append_right _ (List.mem_append_right _ (List.mem_append_right _ (List.mem_append_right _ (List.mem_append_right _ (List.mem_append_right _ (List.mem_append_right _ (List.mem_append_right _ (List.mem_append_right _ (List.mem_append_right _ (List.mem_append_right _ (List.mem_append_right _ (List.mem_append_left _ h))))))))))))))))))))))))))))))))))))))
theorem uw_r29 : ∀ w ∈ wsL_law_r29, w ∈ UW := fun _ h => List.mem_append_left _ (List.mem_append_left _ (List.mem_append_left _ (List.mem_append_left _ (List.mem_append_left _ (List.mem_append_left _ (List.mem_append_left _ (List.mem_append_left _ (List.mem_append_left _ (List.mem_append_left _ (List.mem_append_left _ (List.mem_append_right _ (List.mem_append_right _ (List.mem_append_right _ (List.mem_append_right _ (List.mem_append_right _ (List.mem_append_right _ (List.mem_append_right _ (List.mem_append_right _ (List.mem_append_right _ (List.mem_append_right _ (List.mem_append_right _ (List.mem_append_right _ (List.mem_append_right _ (List.mem_append_right _ (List.mem_append_right _ (List.mem_append_right _ (List.mem_append_right _ (List.mem_append_right _ (List.mem_append_right _ (List.mem_append_right _ (List.mem_append_right _ (List.mem_append_right _ (List.mem_append_right _ (List.mem_append_right _ (List.mem_append_right _ (List.mem_append_right _ (List.mem_append_right _ (List.mem_append_right _ (List.mem_append_left _ h)))))))))))))))))))))))))))))))))))))))
theorem uw_r30 : ∀ w ∈ wsL_law_r30, w ∈ UW := fun _ h => List.mem_append_left _ (List.mem_append_left _ (List.mem_append_left _ (List.mem_append_left _ (List.mem_append_left _ (List.mem_append_left _ (List.mem_append_left _ (List.mem_append_left _ (List.mem_append_left _ (List.mem_append_left _ (List.mem_append_left _ (List.mem_append_right _ (List.mem_append_right _ (List.mem_append_right _ (List.mem_append_right _ (List.mem_append_right _ (List.mem_append_right _ (List.mem_append_right _ (List.mem_append_right _ (List.mem_append_right _ (List.mem_append_right _ (List.mem_append_right _ (List.mem_append_right _ (List.mem_append_right _ (List.mem_append_right _ (List.mem_append_right _ (List.mem_append_right _ (List.mem_append_right _ (List.mem_append_right _ (List.mem_append_right _ (List.mem_append_right _ (List.mem_append_right _ (List.mem_append_right _ (List.mem_append_right _ (List.mem_append_right _ (List.mem_append_right _ (List.mem_append_right _ (List.mem_append_right _ (List.mem_append_right _ (List.mem_append_right _ (List.mem_append_left _ h))))))))))))))))))))))))))))))))))))))))
theorem uw_r31 : ∀ w ∈ wsL_law_r31, w ∈ UW := fun _ h => List.mem_append_left _ (List.mem_append_left _ (List.mem_append_left _ (List.mem_append_left _ (List.mem_append_left _ (List.mem_append_left _ (List.mem_append_left _ (List.mem_append_left _ (List.mem_append_left _ (List.mem_append_left _ (List.mem_append_left _ (List.mem_append_right _ (List.mem_append_right _ (List.mem_append_right _ (List.mem_append_right _ (List.mem_append_right _ (List.mem_append_right _ (List.mem_append_right _ (List.mem_append_right _ (List.mem_append_right _ (List.mem_append_right _ (List.mem_append_right _ (List.mem_append_right _ (List.mem_append_right _ (List.mem_append_right _ (List.mem_append_right _ (List.mem_append_right _ (List.mem_append_right _ (List.mem_append_right _ (List.mem_append_right _ (List.mem_append_right _ (List.mem_append_right _ (List.mem_append_right _ (List.mem_append_right _ (List.mem_append_right _ (List.mem_append_right _ (List.mem_append_right _ (List.mem_append_right _ (List.mem_append_right _ (List.mem_append_right _ (List.mem_append_right _ (List.mem_append_left _ h)))))))))))))))))))))))))))))))))))))))))
theorem uw_r32 : ∀ w ∈ wsL_law_r32, w ∈ UW := fun _ h => List.mem_append_left _ (List.mem_append_left _ (List.mem_append_left _ (List.mem_append_left _ (List.mem_append_left _ (List.mem_append_left _ (List.mem_append_left _ (List.mem_append_left _ (List.mem_append_left _ (List.mem_append_left _ (List.mem_append_left _ (List.mem_append_right _ (List.mem_append_right _ (List.mem_append_right _ (List.mem_append_right _ (List.mem_append_right _ (List.mem_append_right _ (List.mem_append_right _ (List.mem_append_right _ (List.mem_append_right _ (List.mem_append_right _ (List.mem_append_right _ (List.mem_append_right _ (List.mem_append_right _ (List.mem_append_right _ (List.mem_append_right _ (List.mem_append_right _ (List.mem_append_right _ (List.mem_append_right _ (List.mem_append_right _ (List.mem_append_right _ (List.mem_append_right _ (List.mem_append_right _ (List.mem_append_right _ (List.mem_append_right _ (List.mem_append_right _ (List.mem_append_right _ (List.mem_append_right _ (List.mem_append_right _ (List.mem_append_right _ (List.mem_append_right _ (List.mem_append_right _ (List.mem_append_left _ h))))))))))))))))))))))))))))))))))))))))))
theorem uw_r33 : ∀ w ∈ wsL_law_r33, w ∈ UW := fun _ h => List.mem_append_left _ (List.mem_append_left _ (List.mem_append_left _ (List.mem_append_left _ (List.mem_append_left _ (List.mem_append_left _ (List.mem_append_left _ (List.mem_append_left _ (List.mem_append_left _ (List.mem_append_left _ (List.mem_append_left _ (List.mem_append_right _ (List.mem_append_right _ (List.mem_append_right _ (List.mem_append_right _ (List.mem_append_right _ (List.mem_append_right _ (List.mem_append_right _ (List.mem_append_right _ (List.mem_append_right _ (List.mem_append_right _ (List.mem_append_right _ (List.mem_append_right _ (List.mem_append_right _ (List.mem_append_right _ (List.mem_append_right _ (List.mem_append_right _ (List.mem_append_right _ (List.mem_append_right _ (List.mem_append_right _ (List.mem_append_right _ (List.mem_append_right _ (List.mem_append_right _ (List.mem_append_right _ (List.mem_append_right _ (List.mem_append_right _ (List.mem_append_right _ (List.mem_append_right _ (List.mem_append_right _ (List.mem_append_right _ (List.mem_append_right _ (List.mem_append_right _ (List.mem_append_right _ (List.mem_append_left _ h)))))))))))))))))))))))))))))))))))))))))))
theorem uw_r34 : ∀ w ∈ wsL_law_r34, w ∈ UW := fun _ h => List.mem_append_left _ (List.mem_append_left _ (List.mem_append_left _ (List.mem_append_left _ (List.mem_append_left _ (List.mem_append_left _ (List.mem_append_left _ (List.mem_append_left _ (List.mem_append_left _ (List.mem_append_left _ (List.mem_append_left _ (List.mem_append_right _ (List.mem_append_right _ (List.mem_append_right _ (List.mem_append_right _ (List.mem_append_right _ (List.mem_append_right _ (List.mem_append_right _ (List.mem_append_right _ (List.mem_append_right _ (List.mem_append_right _ (List.mem_append_right _ (List.mem_append_right _ (List.mem_append_right _ (List.mem_append_right _ (List.mem_append_right _ (List.mem_append_right _ (List.mem_append_right _ (List.mem_append_right _ (List.mem_append_right _ (List.mem_append_right _ (List.mem_append_right _ (List.mem_append_right _ (List.mem_append_right _ (List.mem_append_right _ (List.mem_append_right _ (List.mem_append_right _ (List.mem_append_right _ (List.mem_append_right _ (List.mem_append_right _ (List.mem_append_right _ (List.mem_append_right _ (List.mem_append_right _ (List.mem_append_right _ (List.mem_append_left _ h))))))))))))))))))))))))))))))))))))))))))))
theorem uw_r35 : ∀ w ∈ wsL_law_r35, w ∈ UW := fun _ h => List.mem_append_left _ (List.mem_append_left _ (List.mem_append_left _ (List.mem_append_left _ (List.mem_append_left _ (List.mem_append_left _ (List.mem_append_left _ (List.mem_append_left _ (List.mem_append_left _ (List.mem_append_left _ (List.mem_append_left _ (List.mem_append_right _ (List.mem_append_right _ (List.mem_append_right _ (List.mem_append_right _ (List.mem_append_right _ (List.mem_append_right _ (List.mem_append_right _ (List.mem_append_right _ (List.mem_append_right _ (List.mem_append_right _ (List.mem_append_right _ (List.mem_append_right _ (List.mem_append_right _ (List.mem_append_right _ (List.mem_append_right _ (List.mem_append_right _ (List.mem_append_right _ (List.mem_append_right _ (List.mem_append_right _ (List.mem_append_right _ (List.mem_append_right _ (List.mem_append_right _ (List.mem_append_right _ (List.mem_append_right _ (List.mem_append_right _ (List.mem_append_right _ (List.mem_append_right _ (List.mem_append_right _ (List.mem_append_right _ (List.mem_append_right _ (List.mem_append_right _ (List.mem_append_right _ (List.mem_append_right _ (List.mem_append_right _ (List.mem_append_left _ h)))))))))))))))))))))))))))))))))))))))))))))
theorem uw_r36 : ∀ w ∈ wsL_law_r36, w ∈ UW := fun _ h => List.mem_append_left _ (List.mem_append_left _ (List.mem_append_left _ (List.mem_append_left _ (List.mem_append_left _ (List.mem_append_left _ (List.mem_append_left _ (List.mem_append_left _ (List.mem_append_left _ (List.mem_append_left _ (List.mem_append_left _ (List.mem_append_right _ (List.mem_append_right _ (List.mem_append_right _ (List.mem_append_right _ (List.mem_append_right _ (List.mem_append_right _ (List.mem_append_right _ (List.mem_append_right _ (List.mem_append_right _ (List.mem_append_right _ (List.mem_append_right _ (List.mem_append_right _ (List.mem_append_right _ (List.mem_append_right _ (List.mem_append_right _ (List.mem_append_right _ (List.mem_append_right _ (List.mem_append_right _ (List.mem_append_right _ (List.mem_append_right _ (List.mem_append_right _ (List.mem_append_right _ (List.mem_append_right _ (List.mem_append_right _ (List.mem_append_right _ (List.mem_append_right _ (List.mem_append_right _ (List.mem_append_right _ (List.mem_append_right _ (List.mem_append_right _ (List.mem_append_right _ (List.mem_append_right _ (List.mem_append_right _ (List.mem_append_right _ (List.mem_append_right _ (List.mem_append_left _ h))))))))))))))))))))))))))))))))))))))))))))))
theorem uw_r37 : ∀ w ∈ wsL_law_r37, w ∈ UW := fun _ h => List.mem_append_left _ (List.mem_append_left _ (List.mem_append_left _ (List.mem_append_left _ (List.mem_append_left _ (List.mem_append_left _ (List.mem_append_left _ (List.mem_append_left _ (List.mem_append_left _ (List.mem_append_left _ (List.mem_append_left _ (List.mem_append_right _ (List.mem_append_right _ (List.mem_append_right _ (List.mem_append_right _ (List.mem_append_right _ (List.mem_append_right _ (List.mem_append_right _ (List.mem_append_right _ (List.mem_append_right _ (List.mem_append_right _ (List.mem_append_right _ (List.mem_append_right _ (List.mem_append_right _ (List.mem_append_right _ (List.mem_append_right _ (List.mem_append_right _ (List.mem_append_right _ (List.mem_append_right _ (List.mem_append_right _ (List.mem_append_right _ (List.mem_append_right _ (List.mem_append_right _ (List.mem_append_right _ (List.mem_append_right _ (List.mem_append_right _ (List.mem_append_right _ (List.mem_append_right _ (List.mem_append_right _ (List.mem_append_right _ (List.mem_append_right _ (List.mem_append_right _ (List.mem_append_right _ (List.mem_append_right _ (List.mem_append_right _ (List.mem_append_right _ (List.mem_append_right _ (List.mem_append_left _ h)))))))))))))))))))))))))))))))))))))))))))))))
theorem uw_r38 : ∀ w ∈ wsL_law_r38, w ∈ UW := fun _ h => List.mem_append_left _ (List.mem_append_left _ (List.mem_append_left _ (List.mem_append_left _ (List.mem_append_left _ (List.mem_append_left _ (List.mem_append_left _ (List.mem_append_left _ (List.mem_append_left _ (List.mem_append_left _ (List.mem_append_left _ (List.mem_append_right _ (List.mem_append_right _ (List.mem_append_right _ (List.mem_append_right _ (List.mem_append_right _ (List.mem_append_right _ (List.mem_append_right _ (List.mem_append_right _ (List.mem_append_right _ (List.mem_append_right _ (List.mem_append_right _ (List.mem_append_right _ (List.mem_append_right _ (List.mem_append_right _ (List.mem_append_right _ (List.mem_append_right _ (List.mem_append_right _ (List.mem_append_right _ (List.mem_append_right _ (List.mem_append_right _ (List.mem_append_right _ (List.mem_append_right _ (List.mem_append_right _ (List.mem_append_right _ (List.mem_append_right _ (List.mem_append_right _ (List.mem_append_right _ (List.mem_append_right _ (List.mem_append_right _ (List.mem_append_right _ (List.mem_append_right _ (List.mem_append_right _ (List.mem_append_right _ (List.mem_append_right _ (List.mem_append_right _ (List.mem_append_right _ (List.mem_append_right _ (List.mem_append_left _ h))))))))))))))))))))))))))))))))))))))))))))))))
theorem uw_r39 : ∀ w ∈ wsL_law_r39, w ∈ UW := fun _ h => List.mem_append_left _ (List.mem_append_left _ (List.mem_append_left _ (List.mem_append_left _ (List.mem_append_left _ (List.mem_append_left _ (List.mem_append_left _ (List.mem_append_left _ (List.mem_append_left _ (List.mem_append_left _ (List.mem_append_left _ (List.mem_append_right _ (List.mem_append_right _ (List.mem_append_right _ (List.mem_append_right _ (List.mem_append_right _ (List.mem_append_right _ (List.mem_append_right _ (List.mem_append_right _ (List.mem_append_right _ (List.mem_append_right _ (List.mem_append_right _ (List.mem_append_right _ (List.mem_append_right _ (List.mem_append_right _ (List.mem_append_right _ (List.mem_append_right _ (List.mem_append_right _ (List.mem_append_right _ (List.mem_append_right _ (List.mem_append_right _ (List.mem_append_right _ (List.mem_append_right _ (List.mem_append_right _ (List.mem_append_right _ (List.mem_append_right _ (List.mem_append_right _ (List.mem_append_right _ (List.mem_append_right _ (List.mem_append_right _ (List.mem_append_right _ (List.mem_append_right _ (List.mem_append_right _ (List.mem_append_right _ (List.mem_append_right _ (List.mem_append_right _ (List.mem_append_right _ (List.mem_append_right _ (List.mem_append_right _ (List.mem_append_left _ h)))))))))))))))))))))))))))))))))))))))))))))))))
theorem uw_r40 : ∀ w ∈ wsL_law_r40, w ∈ UW := fun _ h => List.mem_append_left _ (List.mem_append_left _ (List.mem_append_left _ (List.mem_append_left _ (List.mem_append_left _ (List.mem_append_left _ (List.mem_append_left _ (List.mem_append_left _ (List.mem_append_left _ (List.mem_append_left _ (List.mem_append_left _ (List.mem_append_right _ (List.mem_append_right _ (List.mem_append_right _ (List.mem_append_right _ (List.mem_append_right _ (List.mem_append_right _ (List.mem_append_right _ (List.mem_append_right _ (List.mem_append_right _ (List.mem_append_right _ (List.mem_append_right _ (List.mem_append_right _ (List.mem_append_right _ (List.mem_append_right _ (List.mem_append_right _ (List.mem_append_right _ (List.mem_append_right _ (List.mem_append_right _ (List.mem_append_right _ (List.mem_append_right _ (List.mem_append_right _ (List.mem_append_right _ (List.mem_append_right _ (List.mem_append_right _ (List.mem_append_right _ (List.mem_append_right _ (List.mem_append_right _ (List.mem_append_right _ (List.mem_append_right _ (List.mem_append_right _ (List.mem_append_right _ (List.mem_append_right _ (List.mem_append_right _ (List.mem_append_right _ (List.mem_append_right _ (List.mem_append_right _ (List.mem_append_right _ (List.mem_append_right _ (List.mem_append_right _ (List.mem_append_left _ h))))))))))))))))))))))))))))))))))))))))))))))))))
theorem uw_r41 : ∀ w ∈ wsL_law_r41, w ∈ UW := fun _ h => List.mem_append_left _ (List.mem_append_left _ (List.mem_append_left _ (List.mem_append_left _ (List.mem_append_left _ (List.mem_append_left _ (List.mem_append_left _ (List.mem_append_left _ (List.mem_append_left _ (List.mem_append_left _ (List.mem_append_left _ (List.mem_append_right _ (List.mem_append_right _ (List.mem_append_right _ (List.mem_append_right _ (List.mem_append_right _ (List.mem_append_right _ (List.mem_append_right _ (List.mem_append_right _ (List.mem_append_right _ (List.mem_append_right _ (List.mem_append_right _ (List.mem_append_right _ (List.mem_append_right _ (List.mem_append_right _ (List.mem_append_right _ (List.mem_append_right _ (List.mem_append_right _ (List.mem_append_right _ (List.mem_append_right _ (List.mem_append_right _ (List.mem_append_right _ (List.mem_append_right _ (List.mem_append_right _ (List.mem_append_right _ (List.mem_append_right _ (List.mem_append_right _ (List.mem_append_right _ (List.mem_append_right _ (List.mem_append_right _ (List.mem_append_right _ (List.mem_append_right _ (List.mem_append_right _ (List.mem_append_right _ (List.mem_append_right _ (List.mem_append_right _ (List.mem_append_right _ (List.mem_append_right _ (List.mem_append_right _ (List.mem_append_right _ (List.mem_append_right _ (List.mem_append_left _ h)))))))))))))))))))))))))))))))))))))))))))))))))))
theorem uw_r42 : ∀ w ∈ wsL_law_r42, w ∈ UW := fun _ h => List.mem_append_left _ (List.mem_append_left _ (List.mem_append_left _ (List.mem_append_left _ (List.mem_append_left _ (List.mem_append_left _ (List.mem_append_left _ (List.mem_append_left _ (List.mem_append_left _ (List.mem_append_left _ (List.mem_append_left _ (List.mem_append_right _ (List.mem_append_right _ (List.mem_append_right _ (List.mem_append_right _ (List.mem_append_right _ (List.mem_append_right _ (List.mem_append_right _ (List.mem_append_right _ (List.mem_append_right _ (List.mem_append_right _ (List.mem_append_right _ (List.mem_append_right _ (List.mem_append_right _ (List.mem_append_right _ (List.mem_append_right _ (List.mem_append_right _ (List.mem_append_right _ (List.mem_append_right _ (List.mem_append_right _ (List.mem_append_right _ (List.mem_append_right _ (List.mem_append_right _ (List.mem_append_right _ (List.mem_append_right _ (List.mem_append_right _ (List.mem_append_right _ (List.mem_append_right _ (List.mem_append_right _ (List.mem_append_right _ (List.mem_append_right _ (List.mem_append_right _ (List.mem_append_right _ (List.mem_append_right _ (List.mem_append_right _ (List.mem_append_right _ (List.mem_append_right _ (List.mem_append_right _ (List.mem_append_right _ (List.mem_append_right _ (List.mem_append_right _ (List.mem_append_right _ (List.mem_append_left _ h))))))))))))))))))))))))))))))))))))))))))))))))))))
theorem uw_r43 : ∀ w ∈ wsL_law_r43, w ∈ UW := fun _ h => List.mem_append_left _ (List.mem_append_left _ (List.mem_append_left _ (List.mem_append_left _ (List.mem_append_left _ (List.mem_append_left _ (List.mem_append_left _ (List.mem_append_left _ (List.mem_append_left _ (List.mem_append_left _ (List.mem_append_left _ (List.mem_append_right _ (List.mem_append_right _ (List.mem_append_right _ (List.mem_append_right _ (List.mem_append_right _ (List.mem_append_right _ (List.mem_append_right _ (List.mem_append_right _ (List.mem_append_right _ (List.mem_append_right _ (List.mem_append_right _ (List.mem_append_right _ (List.mem_append_right _ (List.mem_append_right _ (List.mem_append_right _ (List.mem_append_right _ (List.mem_append_right _ (List.mem_append_right _ (List.mem_append_right _ (List.mem_append_right _ (List.mem_append_right _ (List.mem_append_right _ (List.mem_append_right _ (List.mem_append_right _ (List.mem_append_right _ (List.mem_append_right _ (List.mem_append_right _ (List.mem_append_right _ (List.mem_append_right _ (List.mem_append_right _ (List.mem_append_right _ (List.mem_append_right _ (List.mem_append_right _ (List.mem_append_right _ (List.mem_append_right _ (List.mem_append_right _ (List.mem_append_right _ (List.mem_append_right _ (List.mem_append_right _ (List.mem_append_right _ (List.mem_append_right _ (List.mem_append_right _ (List.mem_append_left _ h)))))))))))))))))))))))))))))))))))))))))))))))))))))
theorem uw_r44 : ∀ w ∈ wsL_law_r44, w ∈ UW := fun _ h => List.mem_append_left _ (List.mem_append_left _ (List.mem_append_left _ (List.mem_append_left _ (List.mem_append_left _ (List.mem_append_left _ (List.mem_append_left _ (List.mem_append_left _ (List.mem_append_left _ (List.mem_append_left _ (List.mem_append_left _ (List.mem_append_right _ (List.mem_append_right _ (List.mem_append_right _ (List.mem_append_right _ (List.mem_append_right _ (List.mem_append_right _ (List.mem_append_right _ (List.mem_append_right _ (List.mem_append_right _ (List.mem_append_right _ (List.mem_append_right _ (List.mem_append_right _ (List.mem_append_right _ (List.mem_append_right _ (List.mem_append_right _ (List.mem_append_right _ (List.mem_append_right _ (List.mem_append_right _ (List.mem_append_right _ (List.mem_append_right _ (List.mem_append_right _ (List.mem_append_right _ (List.mem_append_right _ (List.mem_append_right _ (List.mem_append_right _ (List.mem_append_right _ (List.mem_append_right _ (List.mem_append_right _ (List.mem_append_right _ (List.mem_append_right _ (List.mem_append_right _ (List.mem_append_right _ (List.mem_append_right _ (List.mem_append_right _ (List.mem_append_right _ (List.mem_append_right _ (List.mem_append_right _ (List.mem_append_right _ (List.mem_append_right _ (List.mem_append_right _ (List.mem_append_right _ (List.mem_append_right _ (List.mem_append_right _ (List.mem_append_left _ h))))))))))))))))))))))))))))))))))))))))))))))))))))))
theorem uw_r45 : ∀ w ∈ wsL_law_r45, w ∈ UW := fun _ h => List.mem_append_left _ (List.mem_append_left _ (List.mem_append_left _ (List.mem_append_left _ (List.mem_append_left _ (List.mem_append_left _ (List.mem_append_left _ (List.mem_append_left _ (List.mem_append_left _ (List.mem_append_left _ (List.mem_append_left _ (List.mem_append_right _ (List.mem_append_right _ (List.mem_append_right _ (List.mem_append_right _ (List.mem_append_right _ (List.mem_append_right _ (List.mem_append_right _ (List.mem_append_right _ (List.mem_append_right _ (List.mem_append_right _ (List.mem_append_right _ (List.mem_append_right _ (List.mem_append_right _ (List.mem_append_right _ (List.mem_append_right _ (List.mem_append_right _ (List.mem_append_right _ (List.mem_append_right _ (List.mem_append_right _ (List.mem_append_right _ (List.mem_append_right _ (List.mem_append_right _ (List.mem_append_right _ (List.mem_append_right _ (List.mem_append_right _ (List.mem_append_right _ (List.mem_append_right _ (List.mem_append_right _ (List.mem_append_right _ (List.mem_append_right _ (List.mem_append_right _ (List.mem_append_right _ (List.mem_append_right _ (List.mem_append_right _ (List.mem_append_right _ (List.mem_append_right _ (List.mem_append_right _ (List.mem_append_right _ (List.mem_append_right _ (List.mem_append_right _ (List.mem_append_right _ (List.mem_append_right _ (List.mem_append_right _ (List.mem_append_right _ (List.mem_append_left _ h)))))))))))))))))))))))))))))))))))))))))))))))))))))))
theorem uw_r46 : ∀ w ∈ wsL_law_r46, w ∈ UW := fun _ h => List.mem_append_left _ (List.mem_append_left _ (List.mem_append_left _ (List.mem_append_left _ (List.mem_append_left _ (List.mem_append_left _ (List.mem_append_left _ (List.mem_append_left _ (List.mem_append_left _ (List.mem_append_left _ (List.mem_append_left _ (List.mem_append_right _ (List.mem_append_right _ (List.mem_append_right _ (List.mem_append_right _ (List.mem_append_right _ (List.mem_append_right _ (List.mem_append_right _ (List.mem_append_right _ (List.mem_append_right _ (List.mem_append_right _ (List.mem_append_right _ (List.mem_append_right _ (List.mem_append_right _ (List.mem_append_right _ (List.mem_append_right _ (List.mem_append_right _ (List.mem_append_right _ (List.mem_append_right _ (List.mem_append_right _ (List.mem_append_right _ (List.mem_append_right _ (List.mem_append_right _ (List.mem_append_right _ (List.mem_append_right _ (List.mem_append_right _ (List.mem_append_right _ (List.mem_append_right _ (List.mem_append_right _ (List.mem_append_right _ (List.mem_append_right _ (List.mem_append_right _ (List.mem_append_right _ (List.mem_append_right _ (List.mem_append_right _ (List.mem_append_right _ (List.mem_append_right _ (List.mem_append_right _ (List.mem_append_right _ (List.mem_append_right _ (List.mem_append_right _ (List.mem_append_right _ (List.mem_append_right _ (List.mem_append_right _ (List.mem_append_right _ (List.mem_append_right _ (List.mem_append_left _ h))))))))))))))))))))))))))))))))))))))))))))))))))))))))
theorem uw_r47 : ∀ w ∈ wsL_law_r47, w ∈ UW := fun _ h => List.mem_append_left _ (List.mem_append_left _ (List.mem_append_left _ (List.mem_append_left _ (List.mem_append_left _ (List.mem_append_left _ (List.mem_append_left _ (List.mem_append_left _ (List.mem_append_left _ (List.mem_append_left _ (List.mem_append_left _ (List.mem_append_right _ (List.mem_append_right _ (List.mem_append_right _ (List.mem_append_right _ (List.mem_append_right _ (List.mem_append_right _ (List.mem_append_right _ (List.mem_append_right _ (List.mem_append_right _ (List.mem_append_right _ (List.mem_append_right _ (List.mem_append_right _ (List.mem_append_right _ (List.mem_append_right _ (List.mem_append_right _ (List.mem_append_right _ (List.mem_append_right _ (List.mem_append_right _ (List.mem_append_right _ (List.mem_append_right _ (List.mem_append_right _ (List.mem_append_right _ (List.mem_append_right _ (List.mem_append_right _ (List.mem_append_right _ (List.mem_append_right _ (List.mem_append_right _ (List.mem_append_right _ (List.mem_append_right _ (List.mem_append_right _ (List.mem_append_right _ (List.mem_append_right _ (List.mem_append_right _ (List.mem_append_right _ (List.mem_append_right _ (List.mem_append_right _ (List.mem_append_right _ (List.mem_append_right _ (List.mem_append_right _ (List.mem_append_right _ (List.mem_append_right _ (List.mem_append_right _ (List.mem_append_right _ (List.mem_append_right _ (List.mem_append_right _ (List.mem_append_right _ (List.mem_append_left _ h)))))))))))))))))))))))))))))))))))))))))))))))))))))))))
theorem uw_r48 : ∀ w ∈ wsL_law_r48, w ∈ UW := fun _ h => List.mem_append_left _ (List.mem_append_left _ (List.mem_append_left _ (List.mem_append_left _ (List.mem_append_left _ (List.mem_append_left _ (List.mem_append_left _ (List.mem_append_left _ (List.mem_append_left _ (List.mem_append_left _ (List.mem_append_left _ (List.mem_append_right _ (List.mem_append_right _ (List.mem_append_right _ (List.mem_append_right _ (List.mem_append_right _ (List.mem_append_right _ (List.mem_append_right _ (List.mem_append_right _ (List.mem_append_right _ (List.mem_append_right _ (List.mem_append_right _ (List.mem_append_right _ (List.mem_append_right _ (List.mem_append_right _ (List.mem_append_right _ (List.mem_append_right _ (List.mem_append_right _ (List.mem_append_right _ (List.mem_append_right _ (List.mem_append_right _ (List.mem_append_right _ (List.mem_append_right _ (List.mem_append_right _ (List.mem_append_right _ (List.mem_append_right _ (List.mem_append_right _ (List.mem_append_right _ (List.mem_append_right _ (List.mem_append_right _ (List.mem_append_right _ (List.mem_append_right _ (List.mem_append_right _ (List.mem_append_right _ (List.mem_append_right _ (List.mem_append_right _ (List.mem_append_right _ (List.mem_append_right _ (List.mem_append_right _ (List.mem_append_right _ (List.mem_append_right _ (List.mem_append_right _ (List.mem_append_right _ (List.mem_append_right _ (List.mem_append_right _ (List.mem_append_right _ (List.mem_append_right _ (List.mem_append_right _ (List.mem_append_left _ h))))))))))))))))))))))))))))))))))))))))))))))))))))))))))
theorem uw_r49 : ∀ w ∈ wsL_law_r49, w ∈ UW := fun _ h => List.mem_append_left _ (List.mem_append_left _ (List.mem_append_left _ (List.mem_append_left _ (List.mem_append_left _ (List.mem_append_left _ (List.mem_append_left _ (List.mem_append_left _ (List.mem_append_left _ (List.mem_append_left _ (List.mem_append_left _ (List.mem_append_right _ (List.mem_append_right _ (List.mem_append_right _ (List.mem_append_right _ (List.mem_append_right _ (List.mem_append_right _ (List.mem_append_right _ (List.mem_append_right _ (List.mem_append_right _ (List.mem_append_right _ (List.mem_append_right _ (List.mem_append_right _ (List.mem_append_right _ (List.mem_append_right _ (List.mem_append_right _ (List.mem_append_right _ (List.mem_append_right _ (List.mem_append_right _ (List.mem_append_right _ (List.mem_append_right _ (List.mem_append_right _ (List.mem_append_right _ (List.mem_append_right _ (List.mem_append_right _ (List.mem_append_right _ (List.mem_append_right _ (List.mem_append_right _ (List.mem_append_right _ (List.mem_append_right _ (List.mem_append_right _ (List.mem_append_right _ (List.mem_append_right _ (List.mem_append_right _ (List.mem_append_right _ (List.mem_append_right _ (List.mem_append_right _ (List.mem_append_right _ (List.mem_append_right _ (List.mem_append_right _ (List.mem_append_right _ (List.mem_append_right _ (List.mem_append_right _ (List.mem_append_right _ (List.mem_append_right _ (List.mem_append_right _ (List.mem_append_right _ (List.mem_append_right _ (List.mem_append_right _ (h)))))))))))))))))))))))))))))))))))))))))))))))))))))))))))
theorem mw_0 : Cond.classLink RL 7 RX8 ∈ UW := uw_r1 _ (List.mem_of_getElem? (i := 0) rfl)
theorem mw_1 : Cond.instantiable RX8 20 ∈ UW := uw_r1 _ (List.mem_of_getElem? (i := 1) rfl)
theorem mw_2 : Cond.initialized RX8 ∈ UW := uw_r1 _ (List.mem_of_getElem? (i := 2) rfl)
theorem mw_3 : Cond.classLink RL 10 RX9 ∈ UW := uw_r1 _ (List.mem_of_getElem? (i := 3) rfl)
theorem mw_4 : Cond.instantiable RX9 34 ∈ UW := uw_r1 _ (List.mem_of_getElem? (i := 4) rfl)
theorem mw_5 : Cond.initialized RX9 ∈ UW := uw_r1 _ (List.mem_of_getElem? (i := 5) rfl)
theorem mw_6 : Cond.methodLink RL 9 yX8_init ∈ UW := uw_r1 _ (List.mem_of_getElem? (i := 6) rfl)
theorem mw_7 : Cond.instanceMethod yX8_init ∈ UW := uw_r1 _ (List.mem_of_getElem? (i := 7) rfl)
theorem mw_8 : Cond.code yX8_init cX8_init 1 none ∈ UW := uw_r1 _ (List.mem_of_getElem? (i := 8) rfl)
theorem mw_9 : Cond.methodLink RX8 3 objectInit ∈ UW := uw_r1 _ (List.mem_of_getElem? (i := 9) rfl)
theorem mw_10 : Cond.instanceMethod objectInit ∈ UW := uw_r1 _ (List.mem_of_getElem? (i := 10) rfl)
theorem mw_11 : Cond.code objectInit ⟨#[0xb1]⟩ 1 none ∈ UW := uw_r1 _ (List.mem_of_getElem? (i := 11) rfl)
theorem mw_12 : Cond.classLink RX8 9 RX5 ∈ UW := uw_r1 _ (List.mem_of_getElem? (i := 12) rfl)
theorem mw_13 : Cond.instantiable RX5 3 ∈ UW := uw_r1 _ (List.mem_of_getElem? (i := 13) rfl)
theorem mw_14 : Cond.initialized RX5 ∈ UW := uw_r1 _ (List.mem_of_getElem? (i := 14) rfl)
theorem mw_15 : Cond.fieldLink RX8 14 "PoundVotes" "tickets" "LPoundVotes$Text;" ∈ UW := uw_r1 _ (List.mem_of_getElem? (i := 15) rfl)
theorem mw_16 : Cond.fieldLink RX8 18 "PoundVotes" "voters" "LPoundVotes$Text;" ∈ UW := uw_r1 _ (List.mem_of_getElem? (i := 16) rfl)
theorem mw_17 : Cond.fieldLink RX8 23 "PoundVotes" "ratios" "LPoundVotes$Text;" ∈ UW := uw_r1 _ (List.mem_of_getElem? (i := 17) rfl)
theorem mw_18 : Cond.classLink RX8 26 RX3 ∈ UW := uw_r1 _ (List.mem_of_getElem? (i := 18) rfl)
theorem mw_19 : Cond.instantiable RX3 2 ∈ UW := uw_r1 _ (List.mem_of_getElem? (i := 19) rfl)
theorem mw_20 : Cond.initialized RX3 ∈ UW := uw_r1 _ (List.mem_of_getElem? (i := 20) rfl)
theorem mw_21 : Cond.fieldLink RX8 29 "PoundVotes" "changes" "LPoundVotes$Rows;" ∈ UW := uw_r1 _ (List.mem_of_getElem? (i := 21) rfl)
theorem mw_22 : Cond.fieldLink RX8 33 "PoundVotes" "contracts" "LPoundVotes$Rows;" ∈ UW := uw_r1 _ (List.mem_of_getElem? (i := 22) rfl)
theorem mw_23 : Cond.fieldLink RX8 36 "PoundVotes" "bills" "LPoundVotes$Rows;" ∈ UW := uw_r1 _ (List.mem_of_getElem? (i := 23) rfl)
theorem mw_24 : Cond.arrayClass .int ∈ UW := uw_r2 _ (List.mem_of_getElem? (i := 0) rfl)
theorem mw_25 : Cond.fieldLink RX8 39 "PoundVotes" "purses" "[I" ∈ UW := uw_r2 _ (List.mem_of_getElem? (i := 1) rfl)
theorem mw_26 : Cond.fieldLink RX8 43 "PoundVotes" "held" "[I" ∈ UW := uw_r2 _ (List.mem_of_getElem? (i := 2) rfl)
theorem mw_27 : Cond.classLink RX8 46 RX2 ∈ UW := uw_r2 _ (List.mem_of_getElem? (i := 3) rfl)
theorem mw_28 : Cond.instantiable RX2 6 ∈ UW := uw_r2 _ (List.mem_of_getElem? (i := 4) rfl)
theorem mw_29 : Cond.initialized RX2 ∈ UW := uw_r2 _ (List.mem_of_getElem? (i := 5) rfl)
theorem mw_30 : Cond.fieldLink RX8 49 "PoundVotes" "roll" "LPoundVotes$Roll;" ∈ UW := uw_r2 _ (List.mem_of_getElem? (i := 6) rfl)
theorem mw_31 : Cond.classLink RX8 53 RX1 ∈ UW := uw_r2 _ (List.mem_of_getElem? (i := 7) rfl)
theorem mw_32 : Cond.instantiable RX1 7 ∈ UW := uw_r2 _ (List.mem_of_getElem? (i := 8) rfl)
theorem mw_33 : Cond.initialized RX1 ∈ UW := uw_r2 _ (List.mem_of_getElem? (i := 9) rfl)
theorem mw_34 : Cond.fieldLink RX8 58 "PoundVotes" "wholePoll" "LPoundVotes$Poll;" ∈ UW := uw_r2 _ (List.mem_of_getElem? (i := 10) rfl)
theorem mw_35 : Cond.fieldLink RX8 62 "PoundVotes" "unitPoll" "LPoundVotes$Poll;" ∈ UW := uw_r2 _ (List.mem_of_getElem? (i := 11) rfl)
theorem mw_36 : Cond.fieldLink RX8 65 "PoundVotes" "approvalPoll" "LPoundVotes$Poll;" ∈ UW := uw_r2 _ (List.mem_of_getElem? (i := 12) rfl)
theorem mw_37 : Cond.classLink RX8 68 RX0 ∈ UW := uw_r2 _ (List.mem_of_getElem? (i := 13) rfl)
theorem mw_38 : Cond.instantiable RX0 13 ∈ UW := uw_r2 _ (List.mem_of_getElem? (i := 14) rfl)
theorem mw_39 : Cond.initialized RX0 ∈ UW := uw_r2 _ (List.mem_of_getElem? (i := 15) rfl)
theorem mw_40 : Cond.fieldLink RX8 73 "PoundVotes" "ballot" "LPoundVotes$Ballot;" ∈ UW := uw_r2 _ (List.mem_of_getElem? (i := 16) rfl)
theorem mw_41 : Cond.classLink RX8 21 RX7 ∈ UW := uw_r2 _ (List.mem_of_getElem? (i := 17) rfl)
theorem mw_42 : Cond.instantiable RX7 3 ∈ UW := uw_r2 _ (List.mem_of_getElem? (i := 18) rfl)
theorem mw_43 : Cond.initialized RX7 ∈ UW := uw_r2 _ (List.mem_of_getElem? (i := 19) rfl)
theorem mw_44 : Cond.fieldLink RX8 78 "PoundVotes" "worths" "LPoundVotes$Worths;" ∈ UW := uw_r2 _ (List.mem_of_getElem? (i := 20) rfl)
theorem mw_45 : Cond.classLink RX8 82 RX6 ∈ UW := uw_r2 _ (List.mem_of_getElem? (i := 21) rfl)
theorem mw_46 : Cond.instantiable RX6 7 ∈ UW := uw_r2 _ (List.mem_of_getElem? (i := 22) rfl)
theorem mw_47 : Cond.initialized RX6 ∈ UW := uw_r2 _ (List.mem_of_getElem? (i := 23) rfl)
theorem mw_48 : Cond.fieldLink RX8 85 "PoundVotes" "towns" "LPoundVotes$Towns;" ∈ UW := uw_r3 _ (List.mem_of_getElem? (i := 0) rfl)
theorem mw_49 : Cond.classLink RX8 89 RX4 ∈ UW := uw_r3 _ (List.mem_of_getElem? (i := 1) rfl)
theorem mw_50 : Cond.instantiable RX4 3 ∈ UW := uw_r3 _ (List.mem_of_getElem? (i := 2) rfl)
theorem mw_51 : Cond.initialized RX4 ∈ UW := uw_r3 _ (List.mem_of_getElem? (i := 3) rfl)
theorem mw_52 : Cond.fieldLink RX8 92 "PoundVotes" "sheets" "LPoundVotes$Sheets;" ∈ UW := uw_r3 _ (List.mem_of_getElem? (i := 4) rfl)
theorem mw_53 : Cond.fieldLink RX8 96 "PoundVotes" "law" "I" ∈ UW := uw_r3 _ (List.mem_of_getElem? (i := 5) rfl)
theorem mw_54 : Cond.fieldLink RX8 100 "PoundVotes" "day" "I" ∈ UW := uw_r3 _ (List.mem_of_getElem? (i := 6) rfl)
theorem mw_55 : Cond.fieldLink RX8 103 "PoundVotes" "finding" "I" ∈ UW := uw_r3 _ (List.mem_of_getElem? (i := 7) rfl)
theorem mw_56 : Cond.fieldLink RX8 106 "PoundVotes" "stale" "Z" ∈ UW := uw_r3 _ (List.mem_of_getElem? (i := 8) rfl)
theorem mw_57 : Cond.methodLink RX8 11 yX5_init ∈ UW := uw_r3 _ (List.mem_of_getElem? (i := 9) rfl)
theorem mw_58 : Cond.instanceMethod yX5_init ∈ UW := uw_r3 _ (List.mem_of_getElem? (i := 10) rfl)
theorem mw_59 : Cond.code yX5_init cX5_init 3 none ∈ UW := uw_r3 _ (List.mem_of_getElem? (i := 11) rfl)
theorem mw_60 : Cond.methodLink RX5 3 objectInit ∈ UW := uw_r3 _ (List.mem_of_getElem? (i := 12) rfl)
theorem mw_61 : Cond.fieldLink RX5 9 "PoundVotes$Text" "kind" "I" ∈ UW := uw_r3 _ (List.mem_of_getElem? (i := 13) rfl)
theorem mw_62 : Cond.fieldLink RX5 15 "PoundVotes$Text" "bytes" "[I" ∈ UW := uw_r3 _ (List.mem_of_getElem? (i := 14) rfl)
theorem mw_63 : Cond.methodLink RX8 28 yX3_init ∈ UW := uw_r3 _ (List.mem_of_getElem? (i := 15) rfl)
theorem mw_64 : Cond.instanceMethod yX3_init ∈ UW := uw_r3 _ (List.mem_of_getElem? (i := 16) rfl)
theorem mw_65 : Cond.code yX3_init cX3_init 3 none ∈ UW := uw_r3 _ (List.mem_of_getElem? (i := 17) rfl)
theorem mw_66 : Cond.methodLink RX3 1 objectInit ∈ UW := uw_r3 _ (List.mem_of_getElem? (i := 18) rfl)
theorem mw_67 : Cond.classLink RX3 7 "[[I" ∈ UW := uw_r3 _ (List.mem_of_getElem? (i := 19) rfl)
theorem mw_68 : Cond.fieldLink RX3 9 "PoundVotes$Rows" "rows" "[[I" ∈ UW := uw_r3 _ (List.mem_of_getElem? (i := 20) rfl)
theorem mw_69 : Cond.instanceMethod yX2_init ∈ UW := uw_r3 _ (List.mem_of_getElem? (i := 21) rfl)
theorem mw_70 : Cond.code yX2_init cX2_init 1 none ∈ UW := uw_r3 _ (List.mem_of_getElem? (i := 22) rfl)
theorem mw_71 : Cond.methodLink RX2 3 objectInit ∈ UW := uw_r3 _ (List.mem_of_getElem? (i := 23) rfl)
theorem mw_72 : Cond.classLink RX2 9 "[[I" ∈ UW := uw_r4 _ (List.mem_of_getElem? (i := 0) rfl)
theorem mw_73 : Cond.fieldLink RX2 11 "PoundVotes$Roll" "figures" "[[I" ∈ UW := uw_r4 _ (List.mem_of_getElem? (i := 1) rfl)
theorem mw_74 : Cond.fieldLink RX2 16 "PoundVotes$Roll" "unitsOfVoters" "[I" ∈ UW := uw_r4 _ (List.mem_of_getElem? (i := 2) rfl)
theorem mw_75 : Cond.fieldLink RX2 20 "PoundVotes$Roll" "owedToVoters" "[I" ∈ UW := uw_r4 _ (List.mem_of_getElem? (i := 3) rfl)
theorem mw_76 : Cond.methodLink RX8 55 yX1_init ∈ UW := uw_r4 _ (List.mem_of_getElem? (i := 4) rfl)
theorem mw_77 : Cond.instanceMethod yX1_init ∈ UW := uw_r4 _ (List.mem_of_getElem? (i := 5) rfl)
theorem mw_78 : Cond.code yX1_init cX1_init 3 none ∈ UW := uw_r4 _ (List.mem_of_getElem? (i := 6) rfl)
theorem mw_79 : Cond.methodLink RX1 3 objectInit ∈ UW := uw_r4 _ (List.mem_of_getElem? (i := 7) rfl)
theorem mw_80 : Cond.classLink RX1 9 "[[I" ∈ UW := uw_r4 _ (List.mem_of_getElem? (i := 8) rfl)
theorem mw_81 : Cond.fieldLink RX1 11 "PoundVotes$Poll" "winners" "[[I" ∈ UW := uw_r4 _ (List.mem_of_getElem? (i := 9) rfl)
theorem mw_82 : Cond.fieldLink RX1 16 "PoundVotes$Poll" "greats" "[[I" ∈ UW := uw_r4 _ (List.mem_of_getElem? (i := 10) rfl)
theorem mw_83 : Cond.fieldLink RX1 19 "PoundVotes$Poll" "tallies" "[[I" ∈ UW := uw_r4 _ (List.mem_of_getElem? (i := 11) rfl)
theorem mw_84 : Cond.fieldLink RX1 22 "PoundVotes$Poll" "gains" "[I" ∈ UW := uw_r4 _ (List.mem_of_getElem? (i := 12) rfl)
theorem mw_85 : Cond.fieldLink RX1 26 "PoundVotes$Poll" "roll" "LPoundVotes$Roll;" ∈ UW := uw_r4 _ (List.mem_of_getElem? (i := 13) rfl)
theorem mw_86 : Cond.fieldLink RX1 30 "PoundVotes$Poll" "law" "I" ∈ UW := uw_r4 _ (List.mem_of_getElem? (i := 14) rfl)
theorem mw_87 : Cond.methodLink RX8 70 yX0_init ∈ UW := uw_r4 _ (List.mem_of_getElem? (i := 15) rfl)
theorem mw_88 : Cond.instanceMethod yX0_init ∈ UW := uw_r4 _ (List.mem_of_getElem? (i := 16) rfl)
theorem mw_89 : Cond.code yX0_init cX0_init 2 none ∈ UW := uw_r4 _ (List.mem_of_getElem? (i := 17) rfl)
theorem mw_90 : Cond.methodLink RX0 3 objectInit ∈ UW := uw_r4 _ (List.mem_of_getElem? (i := 18) rfl)
theorem mw_91 : Cond.fieldLink RX0 9 "PoundVotes$Ballot" "gains" "[I" ∈ UW := uw_r4 _ (List.mem_of_getElem? (i := 19) rfl)
theorem mw_92 : Cond.fieldLink RX0 15 "PoundVotes$Ballot" "tally" "[I" ∈ UW := uw_r4 _ (List.mem_of_getElem? (i := 20) rfl)
theorem mw_93 : Cond.fieldLink RX0 18 "PoundVotes$Ballot" "unspent" "[I" ∈ UW := uw_r4 _ (List.mem_of_getElem? (i := 21) rfl)
theorem mw_94 : Cond.classLink RX0 21 "[[I" ∈ UW := uw_r4 _ (List.mem_of_getElem? (i := 22) rfl)
theorem mw_95 : Cond.fieldLink RX0 23 "PoundVotes$Ballot" "playerGains" "[[I" ∈ UW := uw_r4 _ (List.mem_of_getElem? (i := 23) rfl)
theorem mw_96 : Cond.fieldLink RX0 26 "PoundVotes$Ballot" "contentBits" "[I" ∈ UW := uw_r5 _ (List.mem_of_getElem? (i := 0) rfl)
theorem mw_97 : Cond.fieldLink RX0 29 "PoundVotes$Ballot" "support" "[I" ∈ UW := uw_r5 _ (List.mem_of_getElem? (i := 1) rfl)
theorem mw_98 : Cond.fieldLink RX0 32 "PoundVotes$Ballot" "winVersions" "[I" ∈ UW := uw_r5 _ (List.mem_of_getElem? (i := 2) rfl)
theorem mw_99 : Cond.fieldLink RX0 35 "PoundVotes$Ballot" "winTickets" "[I" ∈ UW := uw_r5 _ (List.mem_of_getElem? (i := 3) rfl)
theorem mw_100 : Cond.fieldLink RX0 38 "PoundVotes$Ballot" "winUnlikeness" "[I" ∈ UW := uw_r5 _ (List.mem_of_getElem? (i := 4) rfl)
theorem mw_101 : Cond.fieldLink RX0 41 "PoundVotes$Ballot" "odds" "[[I" ∈ UW := uw_r5 _ (List.mem_of_getElem? (i := 5) rfl)
theorem mw_102 : Cond.fieldLink RX0 44 "PoundVotes$Ballot" "roll" "LPoundVotes$Roll;" ∈ UW := uw_r5 _ (List.mem_of_getElem? (i := 6) rfl)
theorem mw_103 : Cond.instanceMethod yX7_init ∈ UW := uw_r5 _ (List.mem_of_getElem? (i := 7) rfl)
theorem mw_104 : Cond.code yX7_init cX7_init 1 none ∈ UW := uw_r5 _ (List.mem_of_getElem? (i := 8) rfl)
theorem mw_105 : Cond.methodLink RX7 3 objectInit ∈ UW := uw_r5 _ (List.mem_of_getElem? (i := 9) rfl)
theorem mw_106 : Cond.fieldLink RX7 11 "PoundVotes$Worths" "groups" "[I" ∈ UW := uw_r5 _ (List.mem_of_getElem? (i := 10) rfl)
theorem mw_107 : Cond.arrayClass .long ∈ UW := uw_r5 _ (List.mem_of_getElem? (i := 11) rfl)
theorem mw_108 : Cond.fieldLink RX7 15 "PoundVotes$Worths" "above" "[J" ∈ UW := uw_r5 _ (List.mem_of_getElem? (i := 12) rfl)
theorem mw_109 : Cond.fieldLink RX7 19 "PoundVotes$Worths" "below" "[J" ∈ UW := uw_r5 _ (List.mem_of_getElem? (i := 13) rfl)
theorem mw_110 : Cond.methodLink RX8 84 yX6_init ∈ UW := uw_r5 _ (List.mem_of_getElem? (i := 14) rfl)
theorem mw_111 : Cond.instanceMethod yX6_init ∈ UW := uw_r5 _ (List.mem_of_getElem? (i := 15) rfl)
theorem mw_112 : Cond.code yX6_init cX6_init 1 none ∈ UW := uw_r5 _ (List.mem_of_getElem? (i := 16) rfl)
theorem mw_113 : Cond.methodLink RX6 3 objectInit ∈ UW := uw_r5 _ (List.mem_of_getElem? (i := 17) rfl)
theorem mw_114 : Cond.fieldLink RX6 9 "PoundVotes$Towns" "bestAbove" "I" ∈ UW := uw_r5 _ (List.mem_of_getElem? (i := 18) rfl)
theorem mw_115 : Cond.fieldLink RX6 15 "PoundVotes$Towns" "bestBelow" "I" ∈ UW := uw_r5 _ (List.mem_of_getElem? (i := 19) rfl)
theorem mw_116 : Cond.fieldLink RX6 18 "PoundVotes$Towns" "best" "[I" ∈ UW := uw_r5 _ (List.mem_of_getElem? (i := 20) rfl)
theorem mw_117 : Cond.fieldLink RX6 22 "PoundVotes$Towns" "way" "[I" ∈ UW := uw_r5 _ (List.mem_of_getElem? (i := 21) rfl)
theorem mw_118 : Cond.fieldLink RX6 25 "PoundVotes$Towns" "above" "[I" ∈ UW := uw_r5 _ (List.mem_of_getElem? (i := 22) rfl)
theorem mw_119 : Cond.fieldLink RX6 28 "PoundVotes$Towns" "below" "[I" ∈ UW := uw_r5 _ (List.mem_of_getElem? (i := 23) rfl)
theorem mw_120 : Cond.methodLink RX6 31 yJ7_fill_53178 ∈ UW := uw_r6 _ (List.mem_of_getElem? (i := 0) rfl)
theorem mw_121 : Cond.static yJ7_fill_53178 ∈ UW := uw_r6 _ (List.mem_of_getElem? (i := 1) rfl)
theorem mw_122 : Cond.initialized RJ7 ∈ UW := uw_r6 _ (List.mem_of_getElem? (i := 2) rfl)
theorem mw_123 : Cond.code yJ7_fill_53178 cJ7_fill_53178 4 none ∈ UW := uw_r6 _ (List.mem_of_getElem? (i := 3) rfl)
theorem mw_124 : Cond.methodLink RX8 91 yX4_init ∈ UW := uw_r6 _ (List.mem_of_getElem? (i := 4) rfl)
theorem mw_125 : Cond.instanceMethod yX4_init ∈ UW := uw_r6 _ (List.mem_of_getElem? (i := 5) rfl)
theorem mw_126 : Cond.code yX4_init cX4_init 1 none ∈ UW := uw_r6 _ (List.mem_of_getElem? (i := 6) rfl)
theorem mw_127 : Cond.methodLink RX4 3 objectInit ∈ UW := uw_r6 _ (List.mem_of_getElem? (i := 7) rfl)
theorem mw_128 : Cond.fieldLink RX4 11 "PoundVotes$Sheets" "forms" "[I" ∈ UW := uw_r6 _ (List.mem_of_getElem? (i := 8) rfl)
theorem mw_129 : Cond.fieldLink RX4 15 "PoundVotes$Sheets" "sizes" "[I" ∈ UW := uw_r6 _ (List.mem_of_getElem? (i := 9) rfl)
theorem mw_130 : Cond.classLink RX4 18 "[[I" ∈ UW := uw_r6 _ (List.mem_of_getElem? (i := 10) rfl)
theorem mw_131 : Cond.fieldLink RX4 20 "PoundVotes$Sheets" "items" "[[I" ∈ UW := uw_r6 _ (List.mem_of_getElem? (i := 11) rfl)
theorem mw_132 : Cond.methodLink RX4 23 yJ7_fill_53178 ∈ UW := uw_r6 _ (List.mem_of_getElem? (i := 12) rfl)
theorem mw_133 : Cond.methodLink RX8 110 yJ7_fill_53178 ∈ UW := uw_r6 _ (List.mem_of_getElem? (i := 13) rfl)
theorem mw_134 : Cond.methodLink RL 12 yX9_init ∈ UW := uw_r6 _ (List.mem_of_getElem? (i := 14) rfl)
theorem mw_135 : Cond.instanceMethod yX9_init ∈ UW := uw_r6 _ (List.mem_of_getElem? (i := 15) rfl)
theorem mw_136 : Cond.code yX9_init cX9_init 2 none ∈ UW := uw_r6 _ (List.mem_of_getElem? (i := 16) rfl)
theorem mw_137 : Cond.methodLink RX9 1 objectInit ∈ UW := uw_r6 _ (List.mem_of_getElem? (i := 17) rfl)
theorem mw_138 : Cond.fieldLink RX9 7 "PoundVotesModel" "forms" "[I" ∈ UW := uw_r6 _ (List.mem_of_getElem? (i := 18) rfl)
theorem mw_139 : Cond.fieldLink RX9 13 "PoundVotesModel" "sizes" "[I" ∈ UW := uw_r6 _ (List.mem_of_getElem? (i := 19) rfl)
theorem mw_140 : Cond.fieldLink RX9 16 "PoundVotesModel" "items" "[I" ∈ UW := uw_r6 _ (List.mem_of_getElem? (i := 20) rfl)
theorem mw_141 : Cond.fieldLink RX9 19 "PoundVotesModel" "moved" "[I" ∈ UW := uw_r6 _ (List.mem_of_getElem? (i := 21) rfl)
theorem mw_142 : Cond.fieldLink RX9 22 "PoundVotesModel" "bytes" "[I" ∈ UW := uw_r6 _ (List.mem_of_getElem? (i := 22) rfl)
theorem mw_143 : Cond.fieldLink RX9 25 "PoundVotesModel" "typed" "[I" ∈ UW := uw_r6 _ (List.mem_of_getElem? (i := 23) rfl)
theorem mw_144 : Cond.fieldLink RX9 28 "PoundVotesModel" "many" "[I" ∈ UW := uw_r7 _ (List.mem_of_getElem? (i := 0) rfl)
theorem mw_145 : Cond.fieldLink RX9 31 "PoundVotesModel" "told" "[I" ∈ UW := uw_r7 _ (List.mem_of_getElem? (i := 1) rfl)
theorem mw_146 : Cond.fieldLink RX9 34 "PoundVotesModel" "settings" "[I" ∈ UW := uw_r7 _ (List.mem_of_getElem? (i := 2) rfl)
theorem mw_147 : Cond.fieldLink RX9 37 "PoundVotesModel" "purses" "[I" ∈ UW := uw_r7 _ (List.mem_of_getElem? (i := 3) rfl)
theorem mw_148 : Cond.fieldLink RX9 40 "PoundVotesModel" "change" "[I" ∈ UW := uw_r7 _ (List.mem_of_getElem? (i := 4) rfl)
theorem mw_149 : Cond.fieldLink RX9 43 "PoundVotesModel" "elected" "[I" ∈ UW := uw_r7 _ (List.mem_of_getElem? (i := 5) rfl)
theorem mw_150 : Cond.fieldLink RX9 46 "PoundVotesModel" "votes" "[I" ∈ UW := uw_r7 _ (List.mem_of_getElem? (i := 6) rfl)
theorem mw_151 : Cond.fieldLink RX9 49 "PoundVotesModel" "made" "[I" ∈ UW := uw_r7 _ (List.mem_of_getElem? (i := 7) rfl)
theorem mw_152 : Cond.fieldLink RX9 52 "PoundVotesModel" "contract" "[I" ∈ UW := uw_r7 _ (List.mem_of_getElem? (i := 8) rfl)
theorem mw_153 : Cond.fieldLink RX9 55 "PoundVotesModel" "has" "[I" ∈ UW := uw_r7 _ (List.mem_of_getElem? (i := 9) rfl)
theorem mw_154 : Cond.fieldLink RX9 58 "PoundVotesModel" "tally" "[I" ∈ UW := uw_r7 _ (List.mem_of_getElem? (i := 10) rfl)
theorem mw_155 : Cond.fieldLink RX9 61 "PoundVotesModel" "choices" "[I" ∈ UW := uw_r7 _ (List.mem_of_getElem? (i := 11) rfl)
theorem mw_156 : Cond.fieldLink RX9 64 "PoundVotesModel" "wish" "[I" ∈ UW := uw_r7 _ (List.mem_of_getElem? (i := 12) rfl)
theorem mw_157 : Cond.fieldLink RX9 67 "PoundVotesModel" "root" "[I" ∈ UW := uw_r7 _ (List.mem_of_getElem? (i := 13) rfl)
theorem mw_158 : Cond.fieldLink RX9 70 "PoundVotesModel" "above" "[J" ∈ UW := uw_r7 _ (List.mem_of_getElem? (i := 14) rfl)
theorem mw_159 : Cond.fieldLink RX9 74 "PoundVotesModel" "below" "[J" ∈ UW := uw_r7 _ (List.mem_of_getElem? (i := 15) rfl)
theorem mw_160 : Cond.fieldLink RX9 77 "PoundVotesModel" "rates" "[I" ∈ UW := uw_r7 _ (List.mem_of_getElem? (i := 16) rfl)
theorem mw_161 : Cond.fieldLink RX9 80 "PoundVotesModel" "bestRow" "[I" ∈ UW := uw_r7 _ (List.mem_of_getElem? (i := 17) rfl)
theorem mw_162 : Cond.fieldLink RX9 83 "PoundVotesModel" "bill" "[I" ∈ UW := uw_r7 _ (List.mem_of_getElem? (i := 18) rfl)
theorem mw_163 : Cond.methodLink RL 13 yX8_type ∈ UW := uw_r7 _ (List.mem_of_getElem? (i := 19) rfl)
theorem mw_164 : Cond.instanceMethod yX8_type ∈ UW := uw_r7 _ (List.mem_of_getElem? (i := 20) rfl)
theorem mw_165 : Cond.selects RX8 yX8_type yX8_type ∈ UW := uw_r7 _ (List.mem_of_getElem? (i := 21) rfl)
theorem mw_166 : Cond.code yX8_type cX8_type 4 (some .int) ∈ UW := uw_r7 _ (List.mem_of_getElem? (i := 22) rfl)
theorem mw_167 : Cond.fieldLink RX8 136 "PoundVotes$Text" "size" "I" ∈ UW := uw_r7 _ (List.mem_of_getElem? (i := 23) rfl)
theorem mw_168 : Cond.methodLink RX8 116 yX8_isText ∈ UW := uw_r8 _ (List.mem_of_getElem? (i := 0) rfl)
theorem mw_169 : Cond.static yX8_isText ∈ UW := uw_r8 _ (List.mem_of_getElem? (i := 1) rfl)
theorem mw_170 : Cond.code yX8_isText cX8_isText 1 (some .boolean) ∈ UW := uw_r8 _ (List.mem_of_getElem? (i := 2) rfl)
theorem mw_171 : Cond.methodLink RX8 120 yX8_isWithin ∈ UW := uw_r8 _ (List.mem_of_getElem? (i := 3) rfl)
theorem mw_172 : Cond.static yX8_isWithin ∈ UW := uw_r8 _ (List.mem_of_getElem? (i := 4) rfl)
theorem mw_173 : Cond.code yX8_isWithin cX8_isWithin 3 (some .boolean) ∈ UW := uw_r8 _ (List.mem_of_getElem? (i := 5) rfl)
theorem mw_174 : Cond.methodLink RX8 124 yX8_textOf ∈ UW := uw_r8 _ (List.mem_of_getElem? (i := 6) rfl)
theorem mw_175 : Cond.instanceMethod yX8_textOf ∈ UW := uw_r8 _ (List.mem_of_getElem? (i := 7) rfl)
theorem mw_176 : Cond.selects RX8 yX8_textOf yX8_textOf ∈ UW := uw_r8 _ (List.mem_of_getElem? (i := 8) rfl)
theorem mw_177 : Cond.code yX8_textOf cX8_textOf 2 (some (.object "PoundVotes$Text")) ∈ UW := uw_r8 _ (List.mem_of_getElem? (i := 9) rfl)
theorem mw_178 : Cond.methodLink RX8 128 yX5_isFull ∈ UW := uw_r8 _ (List.mem_of_getElem? (i := 10) rfl)
theorem mw_179 : Cond.instanceMethod yX5_isFull ∈ UW := uw_r8 _ (List.mem_of_getElem? (i := 11) rfl)
theorem mw_180 : Cond.selects RX5 yX5_isFull yX5_isFull ∈ UW := uw_r8 _ (List.mem_of_getElem? (i := 12) rfl)
theorem mw_181 : Cond.code yX5_isFull cX5_isFull 1 (some .boolean) ∈ UW := uw_r8 _ (List.mem_of_getElem? (i := 13) rfl)
theorem mw_182 : Cond.fieldLink RX5 19 "PoundVotes$Text" "size" "I" ∈ UW := uw_r8 _ (List.mem_of_getElem? (i := 14) rfl)
theorem mw_183 : Cond.methodLink RX8 132 yX5_append ∈ UW := uw_r8 _ (List.mem_of_getElem? (i := 15) rfl)
theorem mw_184 : Cond.instanceMethod yX5_append ∈ UW := uw_r8 _ (List.mem_of_getElem? (i := 16) rfl)
theorem mw_185 : Cond.selects RX5 yX5_append yX5_append ∈ UW := uw_r8 _ (List.mem_of_getElem? (i := 17) rfl)
theorem mw_186 : Cond.code yX5_append cX5_append 2 none ∈ UW := uw_r8 _ (List.mem_of_getElem? (i := 18) rfl)
theorem mw_187 : Cond.methodLink RX5 22 yX5_isFull ∈ UW := uw_r8 _ (List.mem_of_getElem? (i := 19) rfl)
theorem mw_188 : Cond.methodLink RL 17 yX9_type ∈ UW := uw_r8 _ (List.mem_of_getElem? (i := 20) rfl)
theorem mw_189 : Cond.instanceMethod yX9_type ∈ UW := uw_r8 _ (List.mem_of_getElem? (i := 21) rfl)
theorem mw_190 : Cond.selects RX9 yX9_type yX9_type ∈ UW := uw_r8 _ (List.mem_of_getElem? (i := 22) rfl)
theorem mw_191 : Cond.code yX9_type cX9_type 3 (some .int) ∈ UW := uw_r8 _ (List.mem_of_getElem? (i := 23) rfl)
theorem mw_192 : Cond.constantLong RX9 120 (255) ∈ UW := uw_r9 _ (List.mem_of_getElem? (i := 0) rfl)
theorem mw_193 : Cond.methodLink RX9 117 yX9_isText ∈ UW := uw_r9 _ (List.mem_of_getElem? (i := 1) rfl)
theorem mw_194 : Cond.static yX9_isText ∈ UW := uw_r9 _ (List.mem_of_getElem? (i := 2) rfl)
theorem mw_195 : Cond.code yX9_isText cX9_isText 1 (some .boolean) ∈ UW := uw_r9 _ (List.mem_of_getElem? (i := 3) rfl)
theorem mw_196 : Cond.constantLong RX9 102 (2) ∈ UW := uw_r9 _ (List.mem_of_getElem? (i := 4) rfl)
theorem mw_197 : Cond.methodLink RX9 88 yX9_in ∈ UW := uw_r9 _ (List.mem_of_getElem? (i := 5) rfl)
theorem mw_198 : Cond.static yX9_in ∈ UW := uw_r9 _ (List.mem_of_getElem? (i := 6) rfl)
theorem mw_199 : Cond.code yX9_in cX9_in 6 (some .boolean) ∈ UW := uw_r9 _ (List.mem_of_getElem? (i := 7) rfl)
theorem mw_200 : Cond.methodLink RL 18 yX8_wipe ∈ UW := uw_r9 _ (List.mem_of_getElem? (i := 8) rfl)
theorem mw_201 : Cond.instanceMethod yX8_wipe ∈ UW := uw_r9 _ (List.mem_of_getElem? (i := 9) rfl)
theorem mw_202 : Cond.selects RX8 yX8_wipe yX8_wipe ∈ UW := uw_r9 _ (List.mem_of_getElem? (i := 10) rfl)
theorem mw_203 : Cond.code yX8_wipe cX8_wipe 4 (some .int) ∈ UW := uw_r9 _ (List.mem_of_getElem? (i := 11) rfl)
theorem mw_204 : Cond.methodLink RL 22 yX9_wipe ∈ UW := uw_r9 _ (List.mem_of_getElem? (i := 12) rfl)
theorem mw_205 : Cond.instanceMethod yX9_wipe ∈ UW := uw_r9 _ (List.mem_of_getElem? (i := 13) rfl)
theorem mw_206 : Cond.selects RX9 yX9_wipe yX9_wipe ∈ UW := uw_r9 _ (List.mem_of_getElem? (i := 14) rfl)
theorem mw_207 : Cond.code yX9_wipe cX9_wipe 3 (some .int) ∈ UW := uw_r9 _ (List.mem_of_getElem? (i := 15) rfl)
theorem mw_208 : Cond.methodLink RL 23 yX8_undo ∈ UW := uw_r9 _ (List.mem_of_getElem? (i := 16) rfl)
theorem mw_209 : Cond.instanceMethod yX8_undo ∈ UW := uw_r9 _ (List.mem_of_getElem? (i := 17) rfl)
theorem mw_210 : Cond.selects RX8 yX8_undo yX8_undo ∈ UW := uw_r9 _ (List.mem_of_getElem? (i := 18) rfl)
theorem mw_211 : Cond.code yX8_undo cX8_undo 3 (some .int) ∈ UW := uw_r9 _ (List.mem_of_getElem? (i := 19) rfl)
theorem mw_212 : Cond.methodLink RL 26 yX9_undo ∈ UW := uw_r9 _ (List.mem_of_getElem? (i := 20) rfl)
theorem mw_213 : Cond.instanceMethod yX9_undo ∈ UW := uw_r9 _ (List.mem_of_getElem? (i := 21) rfl)
theorem mw_214 : Cond.selects RX9 yX9_undo yX9_undo ∈ UW := uw_r9 _ (List.mem_of_getElem? (i := 22) rfl)
theorem mw_215 : Cond.code yX9_undo cX9_undo 2 (some .int) ∈ UW := uw_r9 _ (List.mem_of_getElem? (i := 23) rfl)
theorem mw_216 : Cond.methodLink RL 27 yX8_fault ∈ UW := uw_r10 _ (List.mem_of_getElem? (i := 0) rfl)
theorem mw_217 : Cond.instanceMethod yX8_fault ∈ UW := uw_r10 _ (List.mem_of_getElem? (i := 1) rfl)
theorem mw_218 : Cond.selects RX8 yX8_fault yX8_fault ∈ UW := uw_r10 _ (List.mem_of_getElem? (i := 2) rfl)
theorem mw_219 : Cond.code yX8_fault cX8_fault 2 (some .int) ∈ UW := uw_r10 _ (List.mem_of_getElem? (i := 3) rfl)
theorem mw_220 : Cond.methodLink RX8 139 yX5_faultPlace ∈ UW := uw_r10 _ (List.mem_of_getElem? (i := 4) rfl)
theorem mw_221 : Cond.instanceMethod yX5_faultPlace ∈ UW := uw_r10 _ (List.mem_of_getElem? (i := 5) rfl)
theorem mw_222 : Cond.selects RX5 yX5_faultPlace yX5_faultPlace ∈ UW := uw_r10 _ (List.mem_of_getElem? (i := 6) rfl)
theorem mw_223 : Cond.code yX5_faultPlace cX5_faultPlace 2 (some .int) ∈ UW := uw_r10 _ (List.mem_of_getElem? (i := 7) rfl)
theorem mw_224 : Cond.methodLink RX5 26 yX5_fits ∈ UW := uw_r10 _ (List.mem_of_getElem? (i := 8) rfl)
theorem mw_225 : Cond.instanceMethod yX5_fits ∈ UW := uw_r10 _ (List.mem_of_getElem? (i := 9) rfl)
theorem mw_226 : Cond.selects RX5 yX5_fits yX5_fits ∈ UW := uw_r10 _ (List.mem_of_getElem? (i := 10) rfl)
theorem mw_227 : Cond.code yX5_fits cX5_fits 4 (some .boolean) ∈ UW := uw_r10 _ (List.mem_of_getElem? (i := 11) rfl)
theorem mw_228 : Cond.methodLink RL 30 yX9_fault ∈ UW := uw_r10 _ (List.mem_of_getElem? (i := 12) rfl)
theorem mw_229 : Cond.instanceMethod yX9_fault ∈ UW := uw_r10 _ (List.mem_of_getElem? (i := 13) rfl)
theorem mw_230 : Cond.selects RX9 yX9_fault yX9_fault ∈ UW := uw_r10 _ (List.mem_of_getElem? (i := 14) rfl)
theorem mw_231 : Cond.code yX9_fault cX9_fault 2 (some .int) ∈ UW := uw_r10 _ (List.mem_of_getElem? (i := 15) rfl)
theorem mw_232 : Cond.methodLink RX9 144 yX9_readsText ∈ UW := uw_r10 _ (List.mem_of_getElem? (i := 16) rfl)
theorem mw_233 : Cond.instanceMethod yX9_readsText ∈ UW := uw_r10 _ (List.mem_of_getElem? (i := 17) rfl)
theorem mw_234 : Cond.selects RX9 yX9_readsText yX9_readsText ∈ UW := uw_r10 _ (List.mem_of_getElem? (i := 18) rfl)
theorem mw_235 : Cond.code yX9_readsText cX9_readsText 4 (some .int) ∈ UW := uw_r10 _ (List.mem_of_getElem? (i := 19) rfl)
theorem mw_236 : Cond.fieldLink RX9 122 "PoundVotesModel" "at" "I" ∈ UW := uw_r10 _ (List.mem_of_getElem? (i := 20) rfl)
theorem mw_237 : Cond.methodLink RX9 141 yX9_readsThing ∈ UW := uw_r10 _ (List.mem_of_getElem? (i := 21) rfl)
theorem mw_238 : Cond.instanceMethod yX9_readsThing ∈ UW := uw_r10 _ (List.mem_of_getElem? (i := 22) rfl)
theorem mw_239 : Cond.selects RX9 yX9_readsThing yX9_readsThing ∈ UW := uw_r10 _ (List.mem_of_getElem? (i := 23) rfl)
theorem mw_240 : Cond.code yX9_readsThing cX9_readsThing 5 (some .boolean) ∈ UW := uw_r11 _ (List.mem_of_getElem? (i := 0) rfl)
theorem mw_241 : Cond.methodLink RX9 138 yX9_tells ∈ UW := uw_r11 _ (List.mem_of_getElem? (i := 1) rfl)
theorem mw_242 : Cond.instanceMethod yX9_tells ∈ UW := uw_r11 _ (List.mem_of_getElem? (i := 2) rfl)
theorem mw_243 : Cond.selects RX9 yX9_tells yX9_tells ∈ UW := uw_r11 _ (List.mem_of_getElem? (i := 3) rfl)
theorem mw_244 : Cond.code yX9_tells cX9_tells 6 (some .int) ∈ UW := uw_r11 _ (List.mem_of_getElem? (i := 4) rfl)
theorem mw_245 : Cond.constantLong RX9 128 (49) ∈ UW := uw_r11 _ (List.mem_of_getElem? (i := 5) rfl)
theorem mw_246 : Cond.constantLong RX9 130 (57) ∈ UW := uw_r11 _ (List.mem_of_getElem? (i := 6) rfl)
theorem mw_247 : Cond.constantLong RX9 132 (97) ∈ UW := uw_r11 _ (List.mem_of_getElem? (i := 7) rfl)
theorem mw_248 : Cond.constantLong RX9 134 (99) ∈ UW := uw_r11 _ (List.mem_of_getElem? (i := 8) rfl)
theorem mw_249 : Cond.constantLong RX9 136 (102) ∈ UW := uw_r11 _ (List.mem_of_getElem? (i := 9) rfl)
theorem mw_250 : Cond.methodLink RX9 125 yX9_here ∈ UW := uw_r11 _ (List.mem_of_getElem? (i := 10) rfl)
theorem mw_251 : Cond.instanceMethod yX9_here ∈ UW := uw_r11 _ (List.mem_of_getElem? (i := 11) rfl)
theorem mw_252 : Cond.selects RX9 yX9_here yX9_here ∈ UW := uw_r11 _ (List.mem_of_getElem? (i := 12) rfl)
theorem mw_253 : Cond.code yX9_here cX9_here 2 (some .int) ∈ UW := uw_r11 _ (List.mem_of_getElem? (i := 13) rfl)
theorem mw_254 : Cond.methodLink RL 31 yX8_ticket ∈ UW := uw_r11 _ (List.mem_of_getElem? (i := 14) rfl)
theorem mw_255 : Cond.instanceMethod yX8_ticket ∈ UW := uw_r11 _ (List.mem_of_getElem? (i := 15) rfl)
theorem mw_256 : Cond.selects RX8 yX8_ticket yX8_ticket ∈ UW := uw_r11 _ (List.mem_of_getElem? (i := 16) rfl)
theorem mw_257 : Cond.code yX8_ticket cX8_ticket 4 (some .int) ∈ UW := uw_r11 _ (List.mem_of_getElem? (i := 17) rfl)
theorem mw_258 : Cond.methodLink RX8 143 yX8_settle ∈ UW := uw_r11 _ (List.mem_of_getElem? (i := 18) rfl)
theorem mw_259 : Cond.instanceMethod yX8_settle ∈ UW := uw_r11 _ (List.mem_of_getElem? (i := 19) rfl)
theorem mw_260 : Cond.selects RX8 yX8_settle yX8_settle ∈ UW := uw_r11 _ (List.mem_of_getElem? (i := 20) rfl)
theorem mw_261 : Cond.code yX8_settle cX8_settle 1 none ∈ UW := uw_r11 _ (List.mem_of_getElem? (i := 21) rfl)
theorem mw_262 : Cond.methodLink RX8 409 yX2_take ∈ UW := uw_r11 _ (List.mem_of_getElem? (i := 22) rfl)
theorem mw_263 : Cond.instanceMethod yX2_take ∈ UW := uw_r11 _ (List.mem_of_getElem? (i := 23) rfl)
theorem mw_264 : Cond.selects RX2 yX2_take yX2_take ∈ UW := uw_r12 _ (List.mem_of_getElem? (i := 0) rfl)
theorem mw_265 : Cond.code yX2_take cX2_take 6 none ∈ UW := uw_r12 _ (List.mem_of_getElem? (i := 1) rfl)
theorem mw_266 : Cond.fieldLink RX2 23 "PoundVotes$Roll" "version" "I" ∈ UW := uw_r12 _ (List.mem_of_getElem? (i := 2) rfl)
theorem mw_267 : Cond.fieldLink RX2 33 "PoundVotes$Roll" "parties" "I" ∈ UW := uw_r12 _ (List.mem_of_getElem? (i := 3) rfl)
theorem mw_268 : Cond.fieldLink RX2 36 "PoundVotes$Roll" "voters" "I" ∈ UW := uw_r12 _ (List.mem_of_getElem? (i := 4) rfl)
theorem mw_269 : Cond.methodLink RX2 27 yX5_items ∈ UW := uw_r12 _ (List.mem_of_getElem? (i := 5) rfl)
theorem mw_270 : Cond.instanceMethod yX5_items ∈ UW := uw_r12 _ (List.mem_of_getElem? (i := 6) rfl)
theorem mw_271 : Cond.selects RX5 yX5_items yX5_items ∈ UW := uw_r12 _ (List.mem_of_getElem? (i := 7) rfl)
theorem mw_272 : Cond.code yX5_items cX5_items 1 (some .int) ∈ UW := uw_r12 _ (List.mem_of_getElem? (i := 8) rfl)
theorem mw_273 : Cond.methodLink RX5 30 yX5_faultPlace ∈ UW := uw_r12 _ (List.mem_of_getElem? (i := 9) rfl)
theorem mw_274 : Cond.methodLink RX2 39 yX5_byteOf ∈ UW := uw_r12 _ (List.mem_of_getElem? (i := 10) rfl)
theorem mw_275 : Cond.instanceMethod yX5_byteOf ∈ UW := uw_r12 _ (List.mem_of_getElem? (i := 11) rfl)
theorem mw_276 : Cond.selects RX5 yX5_byteOf yX5_byteOf ∈ UW := uw_r12 _ (List.mem_of_getElem? (i := 12) rfl)
theorem mw_277 : Cond.code yX5_byteOf cX5_byteOf 3 (some .int) ∈ UW := uw_r12 _ (List.mem_of_getElem? (i := 13) rfl)
theorem mw_278 : Cond.methodLink RX2 43 yX2_carry ∈ UW := uw_r12 _ (List.mem_of_getElem? (i := 14) rfl)
theorem mw_279 : Cond.instanceMethod yX2_carry ∈ UW := uw_r12 _ (List.mem_of_getElem? (i := 15) rfl)
theorem mw_280 : Cond.selects RX2 yX2_carry yX2_carry ∈ UW := uw_r12 _ (List.mem_of_getElem? (i := 16) rfl)
theorem mw_281 : Cond.code yX2_carry cX2_carry 5 none ∈ UW := uw_r12 _ (List.mem_of_getElem? (i := 17) rfl)
theorem mw_282 : Cond.methodLink RX2 51 yX2_figure ∈ UW := uw_r12 _ (List.mem_of_getElem? (i := 18) rfl)
theorem mw_283 : Cond.instanceMethod yX2_figure ∈ UW := uw_r12 _ (List.mem_of_getElem? (i := 19) rfl)
theorem mw_284 : Cond.selects RX2 yX2_figure yX2_figure ∈ UW := uw_r12 _ (List.mem_of_getElem? (i := 20) rfl)
theorem mw_285 : Cond.code yX2_figure cX2_figure 4 (some .int) ∈ UW := uw_r12 _ (List.mem_of_getElem? (i := 21) rfl)
theorem mw_286 : Cond.methodLink RX2 47 yX2_alter ∈ UW := uw_r12 _ (List.mem_of_getElem? (i := 22) rfl)
theorem mw_287 : Cond.instanceMethod yX2_alter ∈ UW := uw_r12 _ (List.mem_of_getElem? (i := 23) rfl)
theorem mw_288 : Cond.selects RX2 yX2_alter yX2_alter ∈ UW := uw_r13 _ (List.mem_of_getElem? (i := 0) rfl)
theorem mw_289 : Cond.code yX2_alter cX2_alter 5 none ∈ UW := uw_r13 _ (List.mem_of_getElem? (i := 1) rfl)
theorem mw_290 : Cond.fieldLink RX2 55 "PoundVotes$Rows" "size" "I" ∈ UW := uw_r13 _ (List.mem_of_getElem? (i := 2) rfl)
theorem mw_291 : Cond.fieldLink RX2 60 "PoundVotes$Rows" "rows" "[[I" ∈ UW := uw_r13 _ (List.mem_of_getElem? (i := 3) rfl)
theorem mw_292 : Cond.methodLink RX8 183 yX8_pollBy ∈ UW := uw_r13 _ (List.mem_of_getElem? (i := 4) rfl)
theorem mw_293 : Cond.instanceMethod yX8_pollBy ∈ UW := uw_r13 _ (List.mem_of_getElem? (i := 5) rfl)
theorem mw_294 : Cond.selects RX8 yX8_pollBy yX8_pollBy ∈ UW := uw_r13 _ (List.mem_of_getElem? (i := 6) rfl)
theorem mw_295 : Cond.code yX8_pollBy cX8_pollBy 2 (some (.object "PoundVotes$Poll")) ∈ UW := uw_r13 _ (List.mem_of_getElem? (i := 7) rfl)
theorem mw_296 : Cond.methodLink RX8 197 yX1_update ∈ UW := uw_r13 _ (List.mem_of_getElem? (i := 8) rfl)
theorem mw_297 : Cond.instanceMethod yX1_update ∈ UW := uw_r13 _ (List.mem_of_getElem? (i := 9) rfl)
theorem mw_298 : Cond.selects RX1 yX1_update yX1_update ∈ UW := uw_r13 _ (List.mem_of_getElem? (i := 10) rfl)
theorem mw_299 : Cond.code yX1_update cX1_update 3 none ∈ UW := uw_r13 _ (List.mem_of_getElem? (i := 11) rfl)
theorem mw_300 : Cond.fieldLink RX1 34 "PoundVotes$Poll" "version" "I" ∈ UW := uw_r13 _ (List.mem_of_getElem? (i := 12) rfl)
theorem mw_301 : Cond.fieldLink RX1 37 "PoundVotes$Roll" "version" "I" ∈ UW := uw_r13 _ (List.mem_of_getElem? (i := 13) rfl)
theorem mw_302 : Cond.fieldLink RX1 40 "PoundVotes$Roll" "parties" "I" ∈ UW := uw_r13 _ (List.mem_of_getElem? (i := 14) rfl)
theorem mw_303 : Cond.methodLink RX1 43 yX1_leaveOpen ∈ UW := uw_r13 _ (List.mem_of_getElem? (i := 15) rfl)
theorem mw_304 : Cond.instanceMethod yX1_leaveOpen ∈ UW := uw_r13 _ (List.mem_of_getElem? (i := 16) rfl)
theorem mw_305 : Cond.selects RX1 yX1_leaveOpen yX1_leaveOpen ∈ UW := uw_r13 _ (List.mem_of_getElem? (i := 17) rfl)
theorem mw_306 : Cond.code yX1_leaveOpen cX1_leaveOpen 3 none ∈ UW := uw_r13 _ (List.mem_of_getElem? (i := 18) rfl)
theorem mw_307 : Cond.methodLink RX1 47 yX1_hold ∈ UW := uw_r13 _ (List.mem_of_getElem? (i := 19) rfl)
theorem mw_308 : Cond.instanceMethod yX1_hold ∈ UW := uw_r13 _ (List.mem_of_getElem? (i := 20) rfl)
theorem mw_309 : Cond.selects RX1 yX1_hold yX1_hold ∈ UW := uw_r13 _ (List.mem_of_getElem? (i := 21) rfl)
theorem mw_310 : Cond.code yX1_hold cX1_hold 7 none ∈ UW := uw_r13 _ (List.mem_of_getElem? (i := 22) rfl)
theorem mw_311 : Cond.fieldLink RX1 53 "PoundVotes$Roll" "voters" "I" ∈ UW := uw_r13 _ (List.mem_of_getElem? (i := 23) rfl)
theorem mw_312 : Cond.methodLink RX1 56 yX2_unitOf ∈ UW := uw_r14 _ (List.mem_of_getElem? (i := 0) rfl)
theorem mw_313 : Cond.instanceMethod yX2_unitOf ∈ UW := uw_r14 _ (List.mem_of_getElem? (i := 1) rfl)
theorem mw_314 : Cond.selects RX2 yX2_unitOf yX2_unitOf ∈ UW := uw_r14 _ (List.mem_of_getElem? (i := 2) rfl)
theorem mw_315 : Cond.code yX2_unitOf cX2_unitOf 2 (some .int) ∈ UW := uw_r14 _ (List.mem_of_getElem? (i := 3) rfl)
theorem mw_316 : Cond.methodLink RX1 60 yX2_fillGains ∈ UW := uw_r14 _ (List.mem_of_getElem? (i := 4) rfl)
theorem mw_317 : Cond.instanceMethod yX2_fillGains ∈ UW := uw_r14 _ (List.mem_of_getElem? (i := 5) rfl)
theorem mw_318 : Cond.selects RX2 yX2_fillGains yX2_fillGains ∈ UW := uw_r14 _ (List.mem_of_getElem? (i := 6) rfl)
theorem mw_319 : Cond.code yX2_fillGains cX2_fillGains 5 none ∈ UW := uw_r14 _ (List.mem_of_getElem? (i := 7) rfl)
theorem mw_320 : Cond.methodLink RX2 63 yX2_gain ∈ UW := uw_r14 _ (List.mem_of_getElem? (i := 8) rfl)
theorem mw_321 : Cond.instanceMethod yX2_gain ∈ UW := uw_r14 _ (List.mem_of_getElem? (i := 9) rfl)
theorem mw_322 : Cond.selects RX2 yX2_gain yX2_gain ∈ UW := uw_r14 _ (List.mem_of_getElem? (i := 10) rfl)
theorem mw_323 : Cond.code yX2_gain cX2_gain 4 (some .int) ∈ UW := uw_r14 _ (List.mem_of_getElem? (i := 11) rfl)
theorem mw_324 : Cond.methodLink RX1 64 yX1_approve ∈ UW := uw_r14 _ (List.mem_of_getElem? (i := 12) rfl)
theorem mw_325 : Cond.instanceMethod yX1_approve ∈ UW := uw_r14 _ (List.mem_of_getElem? (i := 13) rfl)
theorem mw_326 : Cond.selects RX1 yX1_approve yX1_approve ∈ UW := uw_r14 _ (List.mem_of_getElem? (i := 14) rfl)
theorem mw_327 : Cond.code yX1_approve cX1_approve 6 none ∈ UW := uw_r14 _ (List.mem_of_getElem? (i := 15) rfl)
theorem mw_328 : Cond.static yX8_greatest ∈ UW := uw_r14 _ (List.mem_of_getElem? (i := 16) rfl)
theorem mw_329 : Cond.code yX8_greatest cX8_greatest 6 (some .int) ∈ UW := uw_r14 _ (List.mem_of_getElem? (i := 17) rfl)
theorem mw_330 : Cond.methodLink RX1 72 yX2_figure ∈ UW := uw_r14 _ (List.mem_of_getElem? (i := 18) rfl)
theorem mw_331 : Cond.methodLink RX1 50 yX1_repeatFirst ∈ UW := uw_r14 _ (List.mem_of_getElem? (i := 19) rfl)
theorem mw_332 : Cond.instanceMethod yX1_repeatFirst ∈ UW := uw_r14 _ (List.mem_of_getElem? (i := 20) rfl)
theorem mw_333 : Cond.selects RX1 yX1_repeatFirst yX1_repeatFirst ∈ UW := uw_r14 _ (List.mem_of_getElem? (i := 21) rfl)
theorem mw_334 : Cond.code yX1_repeatFirst cX1_repeatFirst 3 none ∈ UW := uw_r14 _ (List.mem_of_getElem? (i := 22) rfl)
theorem mw_335 : Cond.methodLink RX1 76 arraycopyName ∈ UW := uw_r14 _ (List.mem_of_getElem? (i := 23) rfl)
theorem mw_336 : Cond.native arraycopyName ∈ UW := uw_r15 _ (List.mem_of_getElem? (i := 0) rfl)
theorem mw_337 : Cond.static arraycopyName ∈ UW := uw_r15 _ (List.mem_of_getElem? (i := 1) rfl)
theorem mw_338 : Cond.initialized "java/lang/System" ∈ UW := uw_r15 _ (List.mem_of_getElem? (i := 2) rfl)
theorem mw_339 : Cond.methodLink RX8 146 yX8_isYear ∈ UW := uw_r15 _ (List.mem_of_getElem? (i := 3) rfl)
theorem mw_340 : Cond.static yX8_isYear ∈ UW := uw_r15 _ (List.mem_of_getElem? (i := 4) rfl)
theorem mw_341 : Cond.code yX8_isYear cX8_isYear 1 (some .boolean) ∈ UW := uw_r15 _ (List.mem_of_getElem? (i := 5) rfl)
theorem mw_342 : Cond.methodLink RX8 149 yX8_isParty ∈ UW := uw_r15 _ (List.mem_of_getElem? (i := 6) rfl)
theorem mw_343 : Cond.instanceMethod yX8_isParty ∈ UW := uw_r15 _ (List.mem_of_getElem? (i := 7) rfl)
theorem mw_344 : Cond.selects RX8 yX8_isParty yX8_isParty ∈ UW := uw_r15 _ (List.mem_of_getElem? (i := 8) rfl)
theorem mw_345 : Cond.code yX8_isParty cX8_isParty 2 (some .boolean) ∈ UW := uw_r15 _ (List.mem_of_getElem? (i := 9) rfl)
theorem mw_346 : Cond.fieldLink RX8 215 "PoundVotes$Roll" "parties" "I" ∈ UW := uw_r15 _ (List.mem_of_getElem? (i := 10) rfl)
theorem mw_347 : Cond.methodLink RX8 152 yX8_isUnit ∈ UW := uw_r15 _ (List.mem_of_getElem? (i := 11) rfl)
theorem mw_348 : Cond.static yX8_isUnit ∈ UW := uw_r15 _ (List.mem_of_getElem? (i := 12) rfl)
theorem mw_349 : Cond.code yX8_isUnit cX8_isUnit 1 (some .boolean) ∈ UW := uw_r15 _ (List.mem_of_getElem? (i := 13) rfl)
theorem mw_350 : Cond.methodLink RX8 155 yX2_figure ∈ UW := uw_r15 _ (List.mem_of_getElem? (i := 14) rfl)
theorem mw_351 : Cond.methodLink RL 35 yX9_ticket ∈ UW := uw_r15 _ (List.mem_of_getElem? (i := 15) rfl)
theorem mw_352 : Cond.instanceMethod yX9_ticket ∈ UW := uw_r15 _ (List.mem_of_getElem? (i := 16) rfl)
theorem mw_353 : Cond.selects RX9 yX9_ticket yX9_ticket ∈ UW := uw_r15 _ (List.mem_of_getElem? (i := 17) rfl)
theorem mw_354 : Cond.code yX9_ticket cX9_ticket 4 (some .int) ∈ UW := uw_r15 _ (List.mem_of_getElem? (i := 18) rfl)
theorem mw_355 : Cond.methodLink RX9 151 yX9_reads ∈ UW := uw_r15 _ (List.mem_of_getElem? (i := 19) rfl)
theorem mw_356 : Cond.instanceMethod yX9_reads ∈ UW := uw_r15 _ (List.mem_of_getElem? (i := 20) rfl)
theorem mw_357 : Cond.selects RX9 yX9_reads yX9_reads ∈ UW := uw_r15 _ (List.mem_of_getElem? (i := 21) rfl)
theorem mw_358 : Cond.code yX9_reads cX9_reads 2 none ∈ UW := uw_r15 _ (List.mem_of_getElem? (i := 22) rfl)
theorem mw_359 : Cond.methodLink RX9 165 yX9_isYear ∈ UW := uw_r15 _ (List.mem_of_getElem? (i := 23) rfl)
theorem mw_360 : Cond.static yX9_isYear ∈ UW := uw_r16 _ (List.mem_of_getElem? (i := 0) rfl)
theorem mw_361 : Cond.code yX9_isYear cX9_isYear 1 (some .boolean) ∈ UW := uw_r16 _ (List.mem_of_getElem? (i := 1) rfl)
theorem mw_362 : Cond.constantLong RX9 147 (9) ∈ UW := uw_r16 _ (List.mem_of_getElem? (i := 2) rfl)
theorem mw_363 : Cond.methodLink RX9 174 yX9_isParty ∈ UW := uw_r16 _ (List.mem_of_getElem? (i := 3) rfl)
theorem mw_364 : Cond.instanceMethod yX9_isParty ∈ UW := uw_r16 _ (List.mem_of_getElem? (i := 4) rfl)
theorem mw_365 : Cond.selects RX9 yX9_isParty yX9_isParty ∈ UW := uw_r16 _ (List.mem_of_getElem? (i := 5) rfl)
theorem mw_366 : Cond.code yX9_isParty cX9_isParty 2 (some .boolean) ∈ UW := uw_r16 _ (List.mem_of_getElem? (i := 6) rfl)
theorem mw_367 : Cond.methodLink RX9 168 yX9_isUnit ∈ UW := uw_r16 _ (List.mem_of_getElem? (i := 7) rfl)
theorem mw_368 : Cond.static yX9_isUnit ∈ UW := uw_r16 _ (List.mem_of_getElem? (i := 8) rfl)
theorem mw_369 : Cond.code yX9_isUnit cX9_isUnit 1 (some .boolean) ∈ UW := uw_r16 _ (List.mem_of_getElem? (i := 9) rfl)
theorem mw_370 : Cond.methodLink RX9 177 yX9_ticketOf ∈ UW := uw_r16 _ (List.mem_of_getElem? (i := 10) rfl)
theorem mw_371 : Cond.instanceMethod yX9_ticketOf ∈ UW := uw_r16 _ (List.mem_of_getElem? (i := 11) rfl)
theorem mw_372 : Cond.selects RX9 yX9_ticketOf yX9_ticketOf ∈ UW := uw_r16 _ (List.mem_of_getElem? (i := 12) rfl)
theorem mw_373 : Cond.code yX9_ticketOf cX9_ticketOf 8 (some .int) ∈ UW := uw_r16 _ (List.mem_of_getElem? (i := 13) rfl)
theorem mw_374 : Cond.fieldLink RX9 171 "PoundVotesModel" "changes" "I" ∈ UW := uw_r16 _ (List.mem_of_getElem? (i := 14) rfl)
theorem mw_375 : Cond.methodLink RL 36 yX8_voter ∈ UW := uw_r16 _ (List.mem_of_getElem? (i := 15) rfl)
theorem mw_376 : Cond.instanceMethod yX8_voter ∈ UW := uw_r16 _ (List.mem_of_getElem? (i := 16) rfl)
theorem mw_377 : Cond.selects RX8 yX8_voter yX8_voter ∈ UW := uw_r16 _ (List.mem_of_getElem? (i := 17) rfl)
theorem mw_378 : Cond.code yX8_voter cX8_voter 3 (some .int) ∈ UW := uw_r16 _ (List.mem_of_getElem? (i := 18) rfl)
theorem mw_379 : Cond.methodLink RX8 169 Lib.Math.abs.name ∈ UW := uw_r16 _ (List.mem_of_getElem? (i := 19) rfl)
theorem mw_380 : Cond.static Lib.Math.abs.name ∈ UW := uw_r16 _ (List.mem_of_getElem? (i := 20) rfl)
theorem mw_381 : Cond.initialized "java/lang/Math" ∈ UW := uw_r16 _ (List.mem_of_getElem? (i := 21) rfl)
theorem mw_382 : Cond.code Lib.Math.abs.name Lib.Math.abs.code 1 (some .int) ∈ UW := uw_r16 _ (List.mem_of_getElem? (i := 22) rfl)
theorem mw_383 : Cond.methodLink RX8 159 yX8_isOnRoll ∈ UW := uw_r16 _ (List.mem_of_getElem? (i := 23) rfl)
theorem mw_384 : Cond.instanceMethod yX8_isOnRoll ∈ UW := uw_r17 _ (List.mem_of_getElem? (i := 0) rfl)
theorem mw_385 : Cond.selects RX8 yX8_isOnRoll yX8_isOnRoll ∈ UW := uw_r17 _ (List.mem_of_getElem? (i := 1) rfl)
theorem mw_386 : Cond.code yX8_isOnRoll cX8_isOnRoll 2 (some .boolean) ∈ UW := uw_r17 _ (List.mem_of_getElem? (i := 2) rfl)
theorem mw_387 : Cond.fieldLink RX8 407 "PoundVotes$Roll" "voters" "I" ∈ UW := uw_r17 _ (List.mem_of_getElem? (i := 3) rfl)
theorem mw_388 : Cond.methodLink RX8 162 yX2_unitOf ∈ UW := uw_r17 _ (List.mem_of_getElem? (i := 4) rfl)
theorem mw_389 : Cond.methodLink RX8 166 yX2_owed ∈ UW := uw_r17 _ (List.mem_of_getElem? (i := 5) rfl)
theorem mw_390 : Cond.instanceMethod yX2_owed ∈ UW := uw_r17 _ (List.mem_of_getElem? (i := 6) rfl)
theorem mw_391 : Cond.selects RX2 yX2_owed yX2_owed ∈ UW := uw_r17 _ (List.mem_of_getElem? (i := 7) rfl)
theorem mw_392 : Cond.code yX2_owed cX2_owed 2 (some .int) ∈ UW := uw_r17 _ (List.mem_of_getElem? (i := 8) rfl)
theorem mw_393 : Cond.methodLink RL 39 yX9_voter ∈ UW := uw_r17 _ (List.mem_of_getElem? (i := 9) rfl)
theorem mw_394 : Cond.instanceMethod yX9_voter ∈ UW := uw_r17 _ (List.mem_of_getElem? (i := 10) rfl)
theorem mw_395 : Cond.selects RX9 yX9_voter yX9_voter ∈ UW := uw_r17 _ (List.mem_of_getElem? (i := 11) rfl)
theorem mw_396 : Cond.code yX9_voter cX9_voter 3 (some .int) ∈ UW := uw_r17 _ (List.mem_of_getElem? (i := 12) rfl)
theorem mw_397 : Cond.methodLink RX9 154 yX9_isVoter ∈ UW := uw_r17 _ (List.mem_of_getElem? (i := 13) rfl)
theorem mw_398 : Cond.instanceMethod yX9_isVoter ∈ UW := uw_r17 _ (List.mem_of_getElem? (i := 14) rfl)
theorem mw_399 : Cond.selects RX9 yX9_isVoter yX9_isVoter ∈ UW := uw_r17 _ (List.mem_of_getElem? (i := 15) rfl)
theorem mw_400 : Cond.code yX9_isVoter cX9_isVoter 2 (some .boolean) ∈ UW := uw_r17 _ (List.mem_of_getElem? (i := 16) rfl)
theorem mw_401 : Cond.methodLink RL 40 yX8_set ∈ UW := uw_r17 _ (List.mem_of_getElem? (i := 17) rfl)
theorem mw_402 : Cond.instanceMethod yX8_set ∈ UW := uw_r17 _ (List.mem_of_getElem? (i := 18) rfl)
theorem mw_403 : Cond.selects RX8 yX8_set yX8_set ∈ UW := uw_r17 _ (List.mem_of_getElem? (i := 19) rfl)
theorem mw_404 : Cond.code yX8_set cX8_set 4 (some .int) ∈ UW := uw_r17 _ (List.mem_of_getElem? (i := 20) rfl)
theorem mw_405 : Cond.methodLink RL 43 yX9_set ∈ UW := uw_r17 _ (List.mem_of_getElem? (i := 21) rfl)
theorem mw_406 : Cond.instanceMethod yX9_set ∈ UW := uw_r17 _ (List.mem_of_getElem? (i := 22) rfl)
theorem mw_407 : Cond.selects RX9 yX9_set yX9_set ∈ UW := uw_r17 _ (List.mem_of_getElem? (i := 23) rfl)
theorem mw_408 : Cond.code yX9_set cX9_set 4 (some .int) ∈ UW := uw_r18 _ (List.mem_of_getElem? (i := 0) rfl)
theorem mw_409 : Cond.methodLink RX9 157 yX9_isTwo ∈ UW := uw_r18 _ (List.mem_of_getElem? (i := 1) rfl)
theorem mw_410 : Cond.static yX9_isTwo ∈ UW := uw_r18 _ (List.mem_of_getElem? (i := 2) rfl)
theorem mw_411 : Cond.code yX9_isTwo cX9_isTwo 1 (some .boolean) ∈ UW := uw_r18 _ (List.mem_of_getElem? (i := 3) rfl)
theorem mw_412 : Cond.methodLink RL 44 yX8_purse ∈ UW := uw_r18 _ (List.mem_of_getElem? (i := 4) rfl)
theorem mw_413 : Cond.instanceMethod yX8_purse ∈ UW := uw_r18 _ (List.mem_of_getElem? (i := 5) rfl)
theorem mw_414 : Cond.selects RX8 yX8_purse yX8_purse ∈ UW := uw_r18 _ (List.mem_of_getElem? (i := 6) rfl)
theorem mw_415 : Cond.code yX8_purse cX8_purse 4 (some .int) ∈ UW := uw_r18 _ (List.mem_of_getElem? (i := 7) rfl)
theorem mw_416 : Cond.methodLink RX8 174 yX8_isPerson ∈ UW := uw_r18 _ (List.mem_of_getElem? (i := 8) rfl)
theorem mw_417 : Cond.static yX8_isPerson ∈ UW := uw_r18 _ (List.mem_of_getElem? (i := 9) rfl)
theorem mw_418 : Cond.code yX8_isPerson cX8_isPerson 1 (some .boolean) ∈ UW := uw_r18 _ (List.mem_of_getElem? (i := 10) rfl)
theorem mw_419 : Cond.methodLink RL 47 yX9_purse ∈ UW := uw_r18 _ (List.mem_of_getElem? (i := 11) rfl)
theorem mw_420 : Cond.instanceMethod yX9_purse ∈ UW := uw_r18 _ (List.mem_of_getElem? (i := 12) rfl)
theorem mw_421 : Cond.selects RX9 yX9_purse yX9_purse ∈ UW := uw_r18 _ (List.mem_of_getElem? (i := 13) rfl)
theorem mw_422 : Cond.code yX9_purse cX9_purse 4 (some .int) ∈ UW := uw_r18 _ (List.mem_of_getElem? (i := 14) rfl)
theorem mw_423 : Cond.constantLong RX9 163 (999) ∈ UW := uw_r18 _ (List.mem_of_getElem? (i := 15) rfl)
theorem mw_424 : Cond.methodLink RX9 160 yX9_isAnyVoter ∈ UW := uw_r18 _ (List.mem_of_getElem? (i := 16) rfl)
theorem mw_425 : Cond.static yX9_isAnyVoter ∈ UW := uw_r18 _ (List.mem_of_getElem? (i := 17) rfl)
theorem mw_426 : Cond.code yX9_isAnyVoter cX9_isAnyVoter 1 (some .boolean) ∈ UW := uw_r18 _ (List.mem_of_getElem? (i := 18) rfl)
theorem mw_427 : Cond.constantLong RX9 149 (7) ∈ UW := uw_r18 _ (List.mem_of_getElem? (i := 19) rfl)
theorem mw_428 : Cond.methodLink RL 48 yX8_change ∈ UW := uw_r18 _ (List.mem_of_getElem? (i := 20) rfl)
theorem mw_429 : Cond.instanceMethod yX8_change ∈ UW := uw_r18 _ (List.mem_of_getElem? (i := 21) rfl)
theorem mw_430 : Cond.selects RX8 yX8_change yX8_change ∈ UW := uw_r18 _ (List.mem_of_getElem? (i := 22) rfl)
theorem mw_431 : Cond.code yX8_change cX8_change 6 (some .int) ∈ UW := uw_r18 _ (List.mem_of_getElem? (i := 23) rfl)
theorem mw_432 : Cond.fieldLink RX8 182 "PoundVotes$Rows" "size" "I" ∈ UW := uw_r19 _ (List.mem_of_getElem? (i := 0) rfl)
theorem mw_433 : Cond.methodLink RX8 177 yX3_isFull ∈ UW := uw_r19 _ (List.mem_of_getElem? (i := 1) rfl)
theorem mw_434 : Cond.instanceMethod yX3_isFull ∈ UW := uw_r19 _ (List.mem_of_getElem? (i := 2) rfl)
theorem mw_435 : Cond.selects RX3 yX3_isFull yX3_isFull ∈ UW := uw_r19 _ (List.mem_of_getElem? (i := 3) rfl)
theorem mw_436 : Cond.code yX3_isFull cX3_isFull 1 (some .boolean) ∈ UW := uw_r19 _ (List.mem_of_getElem? (i := 4) rfl)
theorem mw_437 : Cond.fieldLink RX3 14 "PoundVotes$Rows" "size" "I" ∈ UW := uw_r19 _ (List.mem_of_getElem? (i := 5) rfl)
theorem mw_438 : Cond.methodLink RX8 178 yX3_next ∈ UW := uw_r19 _ (List.mem_of_getElem? (i := 6) rfl)
theorem mw_439 : Cond.instanceMethod yX3_next ∈ UW := uw_r19 _ (List.mem_of_getElem? (i := 7) rfl)
theorem mw_440 : Cond.selects RX3 yX3_next yX3_next ∈ UW := uw_r19 _ (List.mem_of_getElem? (i := 8) rfl)
theorem mw_441 : Cond.code yX3_next cX3_next 2 (some (.array .int)) ∈ UW := uw_r19 _ (List.mem_of_getElem? (i := 9) rfl)
theorem mw_442 : Cond.methodLink RL 52 yX9_change ∈ UW := uw_r19 _ (List.mem_of_getElem? (i := 10) rfl)
theorem mw_443 : Cond.instanceMethod yX9_change ∈ UW := uw_r19 _ (List.mem_of_getElem? (i := 11) rfl)
theorem mw_444 : Cond.selects RX9 yX9_change yX9_change ∈ UW := uw_r19 _ (List.mem_of_getElem? (i := 12) rfl)
theorem mw_445 : Cond.code yX9_change cX9_change 5 (some .int) ∈ UW := uw_r19 _ (List.mem_of_getElem? (i := 13) rfl)
theorem mw_446 : Cond.constantLong RX9 96 (3) ∈ UW := uw_r19 _ (List.mem_of_getElem? (i := 14) rfl)
theorem mw_447 : Cond.methodLink RL 53 yX8_back ∈ UW := uw_r19 _ (List.mem_of_getElem? (i := 15) rfl)
theorem mw_448 : Cond.instanceMethod yX8_back ∈ UW := uw_r19 _ (List.mem_of_getElem? (i := 16) rfl)
theorem mw_449 : Cond.selects RX8 yX8_back yX8_back ∈ UW := uw_r19 _ (List.mem_of_getElem? (i := 17) rfl)
theorem mw_450 : Cond.code yX8_back cX8_back 3 (some .int) ∈ UW := uw_r19 _ (List.mem_of_getElem? (i := 18) rfl)
theorem mw_451 : Cond.methodLink RL 56 yX9_back ∈ UW := uw_r19 _ (List.mem_of_getElem? (i := 19) rfl)
theorem mw_452 : Cond.instanceMethod yX9_back ∈ UW := uw_r19 _ (List.mem_of_getElem? (i := 20) rfl)
theorem mw_453 : Cond.selects RX9 yX9_back yX9_back ∈ UW := uw_r19 _ (List.mem_of_getElem? (i := 21) rfl)
theorem mw_454 : Cond.code yX9_back cX9_back 3 (some .int) ∈ UW := uw_r19 _ (List.mem_of_getElem? (i := 22) rfl)
theorem mw_455 : Cond.fieldLink RX9 217 "PoundVotesModel" "contracts" "I" ∈ UW := uw_r19 _ (List.mem_of_getElem? (i := 23) rfl)
theorem mw_456 : Cond.fieldLink RX9 336 "PoundVotesModel" "bills" "I" ∈ UW := uw_r20 _ (List.mem_of_getElem? (i := 0) rfl)
theorem mw_457 : Cond.methodLink RL 57 yX8_elected ∈ UW := uw_r20 _ (List.mem_of_getElem? (i := 1) rfl)
theorem mw_458 : Cond.instanceMethod yX8_elected ∈ UW := uw_r20 _ (List.mem_of_getElem? (i := 2) rfl)
theorem mw_459 : Cond.selects RX8 yX8_elected yX8_elected ∈ UW := uw_r20 _ (List.mem_of_getElem? (i := 3) rfl)
theorem mw_460 : Cond.code yX8_elected cX8_elected 3 (some .int) ∈ UW := uw_r20 _ (List.mem_of_getElem? (i := 4) rfl)
theorem mw_461 : Cond.methodLink RX8 187 yX1_winner ∈ UW := uw_r20 _ (List.mem_of_getElem? (i := 5) rfl)
theorem mw_462 : Cond.instanceMethod yX1_winner ∈ UW := uw_r20 _ (List.mem_of_getElem? (i := 6) rfl)
theorem mw_463 : Cond.selects RX1 yX1_winner yX1_winner ∈ UW := uw_r20 _ (List.mem_of_getElem? (i := 7) rfl)
theorem mw_464 : Cond.code yX1_winner cX1_winner 3 (some .int) ∈ UW := uw_r20 _ (List.mem_of_getElem? (i := 8) rfl)
theorem mw_465 : Cond.methodLink RL 60 yX9_elected ∈ UW := uw_r20 _ (List.mem_of_getElem? (i := 9) rfl)
theorem mw_466 : Cond.instanceMethod yX9_elected ∈ UW := uw_r20 _ (List.mem_of_getElem? (i := 10) rfl)
theorem mw_467 : Cond.selects RX9 yX9_elected yX9_elected ∈ UW := uw_r20 _ (List.mem_of_getElem? (i := 11) rfl)
theorem mw_468 : Cond.code yX9_elected cX9_elected 3 (some .int) ∈ UW := uw_r20 _ (List.mem_of_getElem? (i := 12) rfl)
theorem mw_469 : Cond.methodLink RX9 207 yX9_livesNow ∈ UW := uw_r20 _ (List.mem_of_getElem? (i := 13) rfl)
theorem mw_470 : Cond.instanceMethod yX9_livesNow ∈ UW := uw_r20 _ (List.mem_of_getElem? (i := 14) rfl)
theorem mw_471 : Cond.selects RX9 yX9_livesNow yX9_livesNow ∈ UW := uw_r20 _ (List.mem_of_getElem? (i := 15) rfl)
theorem mw_472 : Cond.code yX9_livesNow cX9_livesNow 1 none ∈ UW := uw_r20 _ (List.mem_of_getElem? (i := 16) rfl)
theorem mw_473 : Cond.methodLink RX9 203 yX9_lives ∈ UW := uw_r20 _ (List.mem_of_getElem? (i := 17) rfl)
theorem mw_474 : Cond.instanceMethod yX9_lives ∈ UW := uw_r20 _ (List.mem_of_getElem? (i := 18) rfl)
theorem mw_475 : Cond.selects RX9 yX9_lives yX9_lives ∈ UW := uw_r20 _ (List.mem_of_getElem? (i := 19) rfl)
theorem mw_476 : Cond.code yX9_lives cX9_lives 5 none ∈ UW := uw_r20 _ (List.mem_of_getElem? (i := 20) rfl)
theorem mw_477 : Cond.methodLink RX9 196 yX9_counts ∈ UW := uw_r20 _ (List.mem_of_getElem? (i := 21) rfl)
theorem mw_478 : Cond.instanceMethod yX9_counts ∈ UW := uw_r20 _ (List.mem_of_getElem? (i := 22) rfl)
theorem mw_479 : Cond.selects RX9 yX9_counts yX9_counts ∈ UW := uw_r20 _ (List.mem_of_getElem? (i := 23) rfl)
theorem mw_480 : Cond.code yX9_counts cX9_counts 8 none ∈ UW := uw_r21 _ (List.mem_of_getElem? (i := 0) rfl)
theorem mw_481 : Cond.methodLink RX9 189 yX9_approves ∈ UW := uw_r21 _ (List.mem_of_getElem? (i := 1) rfl)
theorem mw_482 : Cond.instanceMethod yX9_approves ∈ UW := uw_r21 _ (List.mem_of_getElem? (i := 2) rfl)
theorem mw_483 : Cond.selects RX9 yX9_approves yX9_approves ∈ UW := uw_r21 _ (List.mem_of_getElem? (i := 3) rfl)
theorem mw_484 : Cond.code yX9_approves cX9_approves 7 (some .boolean) ∈ UW := uw_r21 _ (List.mem_of_getElem? (i := 4) rfl)
theorem mw_485 : Cond.methodLink RX9 186 yX9_gain ∈ UW := uw_r21 _ (List.mem_of_getElem? (i := 5) rfl)
theorem mw_486 : Cond.instanceMethod yX9_gain ∈ UW := uw_r21 _ (List.mem_of_getElem? (i := 6) rfl)
theorem mw_487 : Cond.selects RX9 yX9_gain yX9_gain ∈ UW := uw_r21 _ (List.mem_of_getElem? (i := 7) rfl)
theorem mw_488 : Cond.code yX9_gain cX9_gain 4 (some .int) ∈ UW := uw_r21 _ (List.mem_of_getElem? (i := 8) rfl)
theorem mw_489 : Cond.methodLink RX9 180 yX9_holds ∈ UW := uw_r21 _ (List.mem_of_getElem? (i := 9) rfl)
theorem mw_490 : Cond.instanceMethod yX9_holds ∈ UW := uw_r21 _ (List.mem_of_getElem? (i := 10) rfl)
theorem mw_491 : Cond.selects RX9 yX9_holds yX9_holds ∈ UW := uw_r21 _ (List.mem_of_getElem? (i := 11) rfl)
theorem mw_492 : Cond.code yX9_holds cX9_holds 2 (some .int) ∈ UW := uw_r21 _ (List.mem_of_getElem? (i := 12) rfl)
theorem mw_493 : Cond.methodLink RX9 183 yX9_unitOf ∈ UW := uw_r21 _ (List.mem_of_getElem? (i := 13) rfl)
theorem mw_494 : Cond.instanceMethod yX9_unitOf ∈ UW := uw_r21 _ (List.mem_of_getElem? (i := 14) rfl)
theorem mw_495 : Cond.selects RX9 yX9_unitOf yX9_unitOf ∈ UW := uw_r21 _ (List.mem_of_getElem? (i := 15) rfl)
theorem mw_496 : Cond.code yX9_unitOf cX9_unitOf 2 (some .int) ∈ UW := uw_r21 _ (List.mem_of_getElem? (i := 16) rfl)
theorem mw_497 : Cond.methodLink RX9 193 yX9_choice ∈ UW := uw_r21 _ (List.mem_of_getElem? (i := 17) rfl)
theorem mw_498 : Cond.instanceMethod yX9_choice ∈ UW := uw_r21 _ (List.mem_of_getElem? (i := 18) rfl)
theorem mw_499 : Cond.selects RX9 yX9_choice yX9_choice ∈ UW := uw_r21 _ (List.mem_of_getElem? (i := 19) rfl)
theorem mw_500 : Cond.code yX9_choice cX9_choice 7 (some .int) ∈ UW := uw_r21 _ (List.mem_of_getElem? (i := 20) rfl)
theorem mw_501 : Cond.methodLink RX9 200 yX9_mostAt ∈ UW := uw_r21 _ (List.mem_of_getElem? (i := 21) rfl)
theorem mw_502 : Cond.instanceMethod yX9_mostAt ∈ UW := uw_r21 _ (List.mem_of_getElem? (i := 22) rfl)
theorem mw_503 : Cond.selects RX9 yX9_mostAt yX9_mostAt ∈ UW := uw_r21 _ (List.mem_of_getElem? (i := 23) rfl)
theorem mw_504 : Cond.code yX9_mostAt cX9_mostAt 6 (some .int) ∈ UW := uw_r22 _ (List.mem_of_getElem? (i := 0) rfl)
theorem mw_505 : Cond.methodLink RL 61 yX8_great ∈ UW := uw_r22 _ (List.mem_of_getElem? (i := 1) rfl)
theorem mw_506 : Cond.instanceMethod yX8_great ∈ UW := uw_r22 _ (List.mem_of_getElem? (i := 2) rfl)
theorem mw_507 : Cond.selects RX8 yX8_great yX8_great ∈ UW := uw_r22 _ (List.mem_of_getElem? (i := 3) rfl)
theorem mw_508 : Cond.code yX8_great cX8_great 3 (some .int) ∈ UW := uw_r22 _ (List.mem_of_getElem? (i := 4) rfl)
theorem mw_509 : Cond.methodLink RX8 191 yX1_greatness ∈ UW := uw_r22 _ (List.mem_of_getElem? (i := 5) rfl)
theorem mw_510 : Cond.instanceMethod yX1_greatness ∈ UW := uw_r22 _ (List.mem_of_getElem? (i := 6) rfl)
theorem mw_511 : Cond.selects RX1 yX1_greatness yX1_greatness ∈ UW := uw_r22 _ (List.mem_of_getElem? (i := 7) rfl)
theorem mw_512 : Cond.code yX1_greatness cX1_greatness 3 (some .int) ∈ UW := uw_r22 _ (List.mem_of_getElem? (i := 8) rfl)
theorem mw_513 : Cond.methodLink RL 64 yX9_great ∈ UW := uw_r22 _ (List.mem_of_getElem? (i := 9) rfl)
theorem mw_514 : Cond.instanceMethod yX9_great ∈ UW := uw_r22 _ (List.mem_of_getElem? (i := 10) rfl)
theorem mw_515 : Cond.selects RX9 yX9_great yX9_great ∈ UW := uw_r22 _ (List.mem_of_getElem? (i := 11) rfl)
theorem mw_516 : Cond.code yX9_great cX9_great 3 (some .int) ∈ UW := uw_r22 _ (List.mem_of_getElem? (i := 12) rfl)
theorem mw_517 : Cond.methodLink RX9 210 yX9_greatOf ∈ UW := uw_r22 _ (List.mem_of_getElem? (i := 13) rfl)
theorem mw_518 : Cond.instanceMethod yX9_greatOf ∈ UW := uw_r22 _ (List.mem_of_getElem? (i := 14) rfl)
theorem mw_519 : Cond.selects RX9 yX9_greatOf yX9_greatOf ∈ UW := uw_r22 _ (List.mem_of_getElem? (i := 15) rfl)
theorem mw_520 : Cond.code yX9_greatOf cX9_greatOf 4 (some .int) ∈ UW := uw_r22 _ (List.mem_of_getElem? (i := 16) rfl)
theorem mw_521 : Cond.methodLink RL 65 yX8_votes ∈ UW := uw_r22 _ (List.mem_of_getElem? (i := 17) rfl)
theorem mw_522 : Cond.instanceMethod yX8_votes ∈ UW := uw_r22 _ (List.mem_of_getElem? (i := 18) rfl)
theorem mw_523 : Cond.selects RX8 yX8_votes yX8_votes ∈ UW := uw_r22 _ (List.mem_of_getElem? (i := 19) rfl)
theorem mw_524 : Cond.code yX8_votes cX8_votes 4 (some .int) ∈ UW := uw_r22 _ (List.mem_of_getElem? (i := 20) rfl)
theorem mw_525 : Cond.methodLink RX8 194 yX1_tally ∈ UW := uw_r22 _ (List.mem_of_getElem? (i := 21) rfl)
theorem mw_526 : Cond.instanceMethod yX1_tally ∈ UW := uw_r22 _ (List.mem_of_getElem? (i := 22) rfl)
theorem mw_527 : Cond.selects RX1 yX1_tally yX1_tally ∈ UW := uw_r22 _ (List.mem_of_getElem? (i := 23) rfl)
theorem mw_528 : Cond.code yX1_tally cX1_tally 4 (some .int) ∈ UW := uw_r23 _ (List.mem_of_getElem? (i := 0) rfl)
theorem mw_529 : Cond.methodLink RL 68 yX9_votes ∈ UW := uw_r23 _ (List.mem_of_getElem? (i := 1) rfl)
theorem mw_530 : Cond.instanceMethod yX9_votes ∈ UW := uw_r23 _ (List.mem_of_getElem? (i := 2) rfl)
theorem mw_531 : Cond.selects RX9 yX9_votes yX9_votes ∈ UW := uw_r23 _ (List.mem_of_getElem? (i := 3) rfl)
theorem mw_532 : Cond.code yX9_votes cX9_votes 4 (some .int) ∈ UW := uw_r23 _ (List.mem_of_getElem? (i := 4) rfl)
theorem mw_533 : Cond.methodLink RL 69 yX8_split ∈ UW := uw_r23 _ (List.mem_of_getElem? (i := 5) rfl)
theorem mw_534 : Cond.instanceMethod yX8_split ∈ UW := uw_r23 _ (List.mem_of_getElem? (i := 6) rfl)
theorem mw_535 : Cond.selects RX8 yX8_split yX8_split ∈ UW := uw_r23 _ (List.mem_of_getElem? (i := 7) rfl)
theorem mw_536 : Cond.code yX8_split cX8_split 4 (some .int) ∈ UW := uw_r23 _ (List.mem_of_getElem? (i := 8) rfl)
theorem mw_537 : Cond.methodLink RL 73 yX9_split ∈ UW := uw_r23 _ (List.mem_of_getElem? (i := 9) rfl)
theorem mw_538 : Cond.instanceMethod yX9_split ∈ UW := uw_r23 _ (List.mem_of_getElem? (i := 10) rfl)
theorem mw_539 : Cond.selects RX9 yX9_split yX9_split ∈ UW := uw_r23 _ (List.mem_of_getElem? (i := 11) rfl)
theorem mw_540 : Cond.code yX9_split cX9_split 1 (some .int) ∈ UW := uw_r23 _ (List.mem_of_getElem? (i := 12) rfl)
theorem mw_541 : Cond.methodLink RX9 213 yX9_splitNow ∈ UW := uw_r23 _ (List.mem_of_getElem? (i := 13) rfl)
theorem mw_542 : Cond.instanceMethod yX9_splitNow ∈ UW := uw_r23 _ (List.mem_of_getElem? (i := 14) rfl)
theorem mw_543 : Cond.selects RX9 yX9_splitNow yX9_splitNow ∈ UW := uw_r23 _ (List.mem_of_getElem? (i := 15) rfl)
theorem mw_544 : Cond.code yX9_splitNow cX9_splitNow 3 (some .int) ∈ UW := uw_r23 _ (List.mem_of_getElem? (i := 16) rfl)
theorem mw_545 : Cond.methodLink RL 74 yX8_contract ∈ UW := uw_r23 _ (List.mem_of_getElem? (i := 17) rfl)
theorem mw_546 : Cond.instanceMethod yX8_contract ∈ UW := uw_r23 _ (List.mem_of_getElem? (i := 18) rfl)
theorem mw_547 : Cond.selects RX8 yX8_contract yX8_contract ∈ UW := uw_r23 _ (List.mem_of_getElem? (i := 19) rfl)
theorem mw_548 : Cond.code yX8_contract cX8_contract 8 (some .int) ∈ UW := uw_r23 _ (List.mem_of_getElem? (i := 20) rfl)
theorem mw_549 : Cond.methodLink RL 78 yX9_contract ∈ UW := uw_r23 _ (List.mem_of_getElem? (i := 21) rfl)
theorem mw_550 : Cond.instanceMethod yX9_contract ∈ UW := uw_r23 _ (List.mem_of_getElem? (i := 22) rfl)
theorem mw_551 : Cond.selects RX9 yX9_contract yX9_contract ∈ UW := uw_r23 _ (List.mem_of_getElem? (i := 23) rfl)
theorem mw_552 : Cond.code yX9_contract cX9_contract 9 (some .int) ∈ UW := uw_r24 _ (List.mem_of_getElem? (i := 0) rfl)
theorem mw_553 : Cond.methodLink RL 79 yX8_money ∈ UW := uw_r24 _ (List.mem_of_getElem? (i := 1) rfl)
theorem mw_554 : Cond.instanceMethod yX8_money ∈ UW := uw_r24 _ (List.mem_of_getElem? (i := 2) rfl)
theorem mw_555 : Cond.selects RX8 yX8_money yX8_money ∈ UW := uw_r24 _ (List.mem_of_getElem? (i := 3) rfl)
theorem mw_556 : Cond.code yX8_money cX8_money 3 (some .int) ∈ UW := uw_r24 _ (List.mem_of_getElem? (i := 4) rfl)
theorem mw_557 : Cond.constant RX8 200 (-100002) ∈ UW := uw_r24 _ (List.mem_of_getElem? (i := 5) rfl)
theorem mw_558 : Cond.methodLink RX8 201 yX8_moneyBehind ∈ UW := uw_r24 _ (List.mem_of_getElem? (i := 6) rfl)
theorem mw_559 : Cond.instanceMethod yX8_moneyBehind ∈ UW := uw_r24 _ (List.mem_of_getElem? (i := 7) rfl)
theorem mw_560 : Cond.selects RX8 yX8_moneyBehind yX8_moneyBehind ∈ UW := uw_r24 _ (List.mem_of_getElem? (i := 8) rfl)
theorem mw_561 : Cond.code yX8_moneyBehind cX8_moneyBehind 6 (some .int) ∈ UW := uw_r24 _ (List.mem_of_getElem? (i := 9) rfl)
theorem mw_562 : Cond.fieldLink RX8 207 "PoundVotes$Rows" "rows" "[[I" ∈ UW := uw_r24 _ (List.mem_of_getElem? (i := 10) rfl)
theorem mw_563 : Cond.methodLink RX8 413 yX8_paid ∈ UW := uw_r24 _ (List.mem_of_getElem? (i := 11) rfl)
theorem mw_564 : Cond.instanceMethod yX8_paid ∈ UW := uw_r24 _ (List.mem_of_getElem? (i := 12) rfl)
theorem mw_565 : Cond.selects RX8 yX8_paid yX8_paid ∈ UW := uw_r24 _ (List.mem_of_getElem? (i := 13) rfl)
theorem mw_566 : Cond.code yX8_paid cX8_paid 2 (some .int) ∈ UW := uw_r24 _ (List.mem_of_getElem? (i := 14) rfl)
theorem mw_567 : Cond.methodLink RX8 211 yX8_paidBy ∈ UW := uw_r24 _ (List.mem_of_getElem? (i := 15) rfl)
theorem mw_568 : Cond.instanceMethod yX8_paidBy ∈ UW := uw_r24 _ (List.mem_of_getElem? (i := 16) rfl)
theorem mw_569 : Cond.selects RX8 yX8_paidBy yX8_paidBy ∈ UW := uw_r24 _ (List.mem_of_getElem? (i := 17) rfl)
theorem mw_570 : Cond.code yX8_paidBy cX8_paidBy 3 (some .int) ∈ UW := uw_r24 _ (List.mem_of_getElem? (i := 18) rfl)
theorem mw_571 : Cond.methodLink RL 82 yX9_money ∈ UW := uw_r24 _ (List.mem_of_getElem? (i := 19) rfl)
theorem mw_572 : Cond.instanceMethod yX9_money ∈ UW := uw_r24 _ (List.mem_of_getElem? (i := 20) rfl)
theorem mw_573 : Cond.selects RX9 yX9_money yX9_money ∈ UW := uw_r24 _ (List.mem_of_getElem? (i := 21) rfl)
theorem mw_574 : Cond.code yX9_money cX9_money 3 (some .int) ∈ UW := uw_r24 _ (List.mem_of_getElem? (i := 22) rfl)
theorem mw_575 : Cond.constant RX9 229 (-100002) ∈ UW := uw_r24 _ (List.mem_of_getElem? (i := 23) rfl)
theorem mw_576 : Cond.methodLink RX9 226 yX9_moneyOf ∈ UW := uw_r25 _ (List.mem_of_getElem? (i := 0) rfl)
theorem mw_577 : Cond.instanceMethod yX9_moneyOf ∈ UW := uw_r25 _ (List.mem_of_getElem? (i := 1) rfl)
theorem mw_578 : Cond.selects RX9 yX9_moneyOf yX9_moneyOf ∈ UW := uw_r25 _ (List.mem_of_getElem? (i := 2) rfl)
theorem mw_579 : Cond.code yX9_moneyOf cX9_moneyOf 5 (some .int) ∈ UW := uw_r25 _ (List.mem_of_getElem? (i := 3) rfl)
theorem mw_580 : Cond.methodLink RX9 223 yX9_pays ∈ UW := uw_r25 _ (List.mem_of_getElem? (i := 4) rfl)
theorem mw_581 : Cond.instanceMethod yX9_pays ∈ UW := uw_r25 _ (List.mem_of_getElem? (i := 5) rfl)
theorem mw_582 : Cond.selects RX9 yX9_pays yX9_pays ∈ UW := uw_r25 _ (List.mem_of_getElem? (i := 6) rfl)
theorem mw_583 : Cond.code yX9_pays cX9_pays 2 (some .int) ∈ UW := uw_r25 _ (List.mem_of_getElem? (i := 7) rfl)
theorem mw_584 : Cond.methodLink RX9 220 yX9_paysBy ∈ UW := uw_r25 _ (List.mem_of_getElem? (i := 8) rfl)
theorem mw_585 : Cond.instanceMethod yX9_paysBy ∈ UW := uw_r25 _ (List.mem_of_getElem? (i := 9) rfl)
theorem mw_586 : Cond.selects RX9 yX9_paysBy yX9_paysBy ∈ UW := uw_r25 _ (List.mem_of_getElem? (i := 10) rfl)
theorem mw_587 : Cond.code yX9_paysBy cX9_paysBy 3 (some .int) ∈ UW := uw_r25 _ (List.mem_of_getElem? (i := 11) rfl)
theorem mw_588 : Cond.methodLink RL 83 yX8_ruined ∈ UW := uw_r25 _ (List.mem_of_getElem? (i := 12) rfl)
theorem mw_589 : Cond.instanceMethod yX8_ruined ∈ UW := uw_r25 _ (List.mem_of_getElem? (i := 13) rfl)
theorem mw_590 : Cond.selects RX8 yX8_ruined yX8_ruined ∈ UW := uw_r25 _ (List.mem_of_getElem? (i := 14) rfl)
theorem mw_591 : Cond.code yX8_ruined cX8_ruined 3 (some .int) ∈ UW := uw_r25 _ (List.mem_of_getElem? (i := 15) rfl)
theorem mw_592 : Cond.methodLink RX8 204 yX8_firstRuin ∈ UW := uw_r25 _ (List.mem_of_getElem? (i := 16) rfl)
theorem mw_593 : Cond.instanceMethod yX8_firstRuin ∈ UW := uw_r25 _ (List.mem_of_getElem? (i := 17) rfl)
theorem mw_594 : Cond.selects RX8 yX8_firstRuin yX8_firstRuin ∈ UW := uw_r25 _ (List.mem_of_getElem? (i := 18) rfl)
theorem mw_595 : Cond.code yX8_firstRuin cX8_firstRuin 5 (some .int) ∈ UW := uw_r25 _ (List.mem_of_getElem? (i := 19) rfl)
theorem mw_596 : Cond.methodLink RX8 314 arraycopyName ∈ UW := uw_r25 _ (List.mem_of_getElem? (i := 20) rfl)
theorem mw_597 : Cond.methodLink RL 86 yX9_ruined ∈ UW := uw_r25 _ (List.mem_of_getElem? (i := 21) rfl)
theorem mw_598 : Cond.instanceMethod yX9_ruined ∈ UW := uw_r25 _ (List.mem_of_getElem? (i := 22) rfl)
theorem mw_599 : Cond.selects RX9 yX9_ruined yX9_ruined ∈ UW := uw_r25 _ (List.mem_of_getElem? (i := 23) rfl)
theorem mw_600 : Cond.code yX9_ruined cX9_ruined 2 (some .int) ∈ UW := uw_r26 _ (List.mem_of_getElem? (i := 0) rfl)
theorem mw_601 : Cond.methodLink RX9 230 yX9_ruinedOf ∈ UW := uw_r26 _ (List.mem_of_getElem? (i := 1) rfl)
theorem mw_602 : Cond.instanceMethod yX9_ruinedOf ∈ UW := uw_r26 _ (List.mem_of_getElem? (i := 2) rfl)
theorem mw_603 : Cond.selects RX9 yX9_ruinedOf yX9_ruinedOf ∈ UW := uw_r26 _ (List.mem_of_getElem? (i := 3) rfl)
theorem mw_604 : Cond.code yX9_ruinedOf cX9_ruinedOf 5 (some .int) ∈ UW := uw_r26 _ (List.mem_of_getElem? (i := 4) rfl)
theorem mw_605 : Cond.methodLink RL 87 yX8_worst ∈ UW := uw_r26 _ (List.mem_of_getElem? (i := 5) rfl)
theorem mw_606 : Cond.instanceMethod yX8_worst ∈ UW := uw_r26 _ (List.mem_of_getElem? (i := 6) rfl)
theorem mw_607 : Cond.selects RX8 yX8_worst yX8_worst ∈ UW := uw_r26 _ (List.mem_of_getElem? (i := 7) rfl)
theorem mw_608 : Cond.code yX8_worst cX8_worst 3 (some .int) ∈ UW := uw_r26 _ (List.mem_of_getElem? (i := 8) rfl)
theorem mw_609 : Cond.methodLink RL 90 yX9_worst ∈ UW := uw_r26 _ (List.mem_of_getElem? (i := 9) rfl)
theorem mw_610 : Cond.instanceMethod yX9_worst ∈ UW := uw_r26 _ (List.mem_of_getElem? (i := 10) rfl)
theorem mw_611 : Cond.selects RX9 yX9_worst yX9_worst ∈ UW := uw_r26 _ (List.mem_of_getElem? (i := 11) rfl)
theorem mw_612 : Cond.code yX9_worst cX9_worst 2 (some .int) ∈ UW := uw_r26 _ (List.mem_of_getElem? (i := 12) rfl)
theorem mw_613 : Cond.methodLink RX9 236 yX9_worstOf ∈ UW := uw_r26 _ (List.mem_of_getElem? (i := 13) rfl)
theorem mw_614 : Cond.instanceMethod yX9_worstOf ∈ UW := uw_r26 _ (List.mem_of_getElem? (i := 14) rfl)
theorem mw_615 : Cond.selects RX9 yX9_worstOf yX9_worstOf ∈ UW := uw_r26 _ (List.mem_of_getElem? (i := 15) rfl)
theorem mw_616 : Cond.code yX9_worstOf cX9_worstOf 2 (some .int) ∈ UW := uw_r26 _ (List.mem_of_getElem? (i := 16) rfl)
theorem mw_617 : Cond.methodLink RX9 233 yX9_amount ∈ UW := uw_r26 _ (List.mem_of_getElem? (i := 17) rfl)
theorem mw_618 : Cond.static yX9_amount ∈ UW := uw_r26 _ (List.mem_of_getElem? (i := 18) rfl)
theorem mw_619 : Cond.code yX9_amount cX9_amount 1 (some .int) ∈ UW := uw_r26 _ (List.mem_of_getElem? (i := 19) rfl)
theorem mw_620 : Cond.methodLink RL 91 yX8_rest ∈ UW := uw_r26 _ (List.mem_of_getElem? (i := 20) rfl)
theorem mw_621 : Cond.instanceMethod yX8_rest ∈ UW := uw_r26 _ (List.mem_of_getElem? (i := 21) rfl)
theorem mw_622 : Cond.selects RX8 yX8_rest yX8_rest ∈ UW := uw_r26 _ (List.mem_of_getElem? (i := 22) rfl)
theorem mw_623 : Cond.code yX8_rest cX8_rest 2 (some .int) ∈ UW := uw_r26 _ (List.mem_of_getElem? (i := 23) rfl)
theorem mw_624 : Cond.methodLink RX8 218 yX0_isTold ∈ UW := uw_r27 _ (List.mem_of_getElem? (i := 0) rfl)
theorem mw_625 : Cond.instanceMethod yX0_isTold ∈ UW := uw_r27 _ (List.mem_of_getElem? (i := 1) rfl)
theorem mw_626 : Cond.selects RX0 yX0_isTold yX0_isTold ∈ UW := uw_r27 _ (List.mem_of_getElem? (i := 2) rfl)
theorem mw_627 : Cond.code yX0_isTold cX0_isTold 4 (some .boolean) ∈ UW := uw_r27 _ (List.mem_of_getElem? (i := 3) rfl)
theorem mw_628 : Cond.fieldLink RX0 62 "PoundVotes$Roll" "parties" "I" ∈ UW := uw_r27 _ (List.mem_of_getElem? (i := 4) rfl)
theorem mw_629 : Cond.methodLink RX0 54 yX0_players ∈ UW := uw_r27 _ (List.mem_of_getElem? (i := 5) rfl)
theorem mw_630 : Cond.instanceMethod yX0_players ∈ UW := uw_r27 _ (List.mem_of_getElem? (i := 6) rfl)
theorem mw_631 : Cond.selects RX0 yX0_players yX0_players ∈ UW := uw_r27 _ (List.mem_of_getElem? (i := 7) rfl)
theorem mw_632 : Cond.code yX0_players cX0_players 1 (some .int) ∈ UW := uw_r27 _ (List.mem_of_getElem? (i := 8) rfl)
theorem mw_633 : Cond.fieldLink RX0 48 "PoundVotes$Roll" "voters" "I" ∈ UW := uw_r27 _ (List.mem_of_getElem? (i := 9) rfl)
theorem mw_634 : Cond.methodLink RX0 58 yX0_toldParty ∈ UW := uw_r27 _ (List.mem_of_getElem? (i := 10) rfl)
theorem mw_635 : Cond.static yX0_toldParty ∈ UW := uw_r27 _ (List.mem_of_getElem? (i := 11) rfl)
theorem mw_636 : Cond.code yX0_toldParty cX0_toldParty 2 (some .int) ∈ UW := uw_r27 _ (List.mem_of_getElem? (i := 12) rfl)
theorem mw_637 : Cond.methodLink RX8 221 yX0_isRest ∈ UW := uw_r27 _ (List.mem_of_getElem? (i := 13) rfl)
theorem mw_638 : Cond.instanceMethod yX0_isRest ∈ UW := uw_r27 _ (List.mem_of_getElem? (i := 14) rfl)
theorem mw_639 : Cond.selects RX0 yX0_isRest yX0_isRest ∈ UW := uw_r27 _ (List.mem_of_getElem? (i := 15) rfl)
theorem mw_640 : Cond.code yX0_isRest cX0_isRest 4 (some .boolean) ∈ UW := uw_r27 _ (List.mem_of_getElem? (i := 16) rfl)
theorem mw_641 : Cond.methodLink RX0 65 yX0_prepare ∈ UW := uw_r27 _ (List.mem_of_getElem? (i := 17) rfl)
theorem mw_642 : Cond.instanceMethod yX0_prepare ∈ UW := uw_r27 _ (List.mem_of_getElem? (i := 18) rfl)
theorem mw_643 : Cond.selects RX0 yX0_prepare yX0_prepare ∈ UW := uw_r27 _ (List.mem_of_getElem? (i := 19) rfl)
theorem mw_644 : Cond.code yX0_prepare cX0_prepare 2 none ∈ UW := uw_r27 _ (List.mem_of_getElem? (i := 20) rfl)
theorem mw_645 : Cond.methodLink RX0 84 yJ7_fill_53178 ∈ UW := uw_r27 _ (List.mem_of_getElem? (i := 21) rfl)
theorem mw_646 : Cond.methodLink RX0 90 yX2_fillGains ∈ UW := uw_r27 _ (List.mem_of_getElem? (i := 22) rfl)
theorem mw_647 : Cond.methodLink RX0 68 yX0_isContent ∈ UW := uw_r27 _ (List.mem_of_getElem? (i := 23) rfl)
theorem mw_648 : Cond.instanceMethod yX0_isContent ∈ UW := uw_r28 _ (List.mem_of_getElem? (i := 0) rfl)
theorem mw_649 : Cond.selects RX0 yX0_isContent yX0_isContent ∈ UW := uw_r28 _ (List.mem_of_getElem? (i := 1) rfl)
theorem mw_650 : Cond.code yX0_isContent cX0_isContent 7 (some .boolean) ∈ UW := uw_r28 _ (List.mem_of_getElem? (i := 2) rfl)
theorem mw_651 : Cond.methodLink RL 94 yX9_rest ∈ UW := uw_r28 _ (List.mem_of_getElem? (i := 3) rfl)
theorem mw_652 : Cond.instanceMethod yX9_rest ∈ UW := uw_r28 _ (List.mem_of_getElem? (i := 4) rfl)
theorem mw_653 : Cond.selects RX9 yX9_rest yX9_rest ∈ UW := uw_r28 _ (List.mem_of_getElem? (i := 5) rfl)
theorem mw_654 : Cond.code yX9_rest cX9_rest 2 (some .int) ∈ UW := uw_r28 _ (List.mem_of_getElem? (i := 6) rfl)
theorem mw_655 : Cond.constantLong RX9 255 (4095) ∈ UW := uw_r28 _ (List.mem_of_getElem? (i := 7) rfl)
theorem mw_656 : Cond.methodLink RX9 257 yX9_restOf ∈ UW := uw_r28 _ (List.mem_of_getElem? (i := 8) rfl)
theorem mw_657 : Cond.instanceMethod yX9_restOf ∈ UW := uw_r28 _ (List.mem_of_getElem? (i := 9) rfl)
theorem mw_658 : Cond.selects RX9 yX9_restOf yX9_restOf ∈ UW := uw_r28 _ (List.mem_of_getElem? (i := 10) rfl)
theorem mw_659 : Cond.code yX9_restOf cX9_restOf 2 (some .int) ∈ UW := uw_r28 _ (List.mem_of_getElem? (i := 11) rfl)
theorem mw_660 : Cond.methodLink RX9 245 yX9_chooses ∈ UW := uw_r28 _ (List.mem_of_getElem? (i := 12) rfl)
theorem mw_661 : Cond.instanceMethod yX9_chooses ∈ UW := uw_r28 _ (List.mem_of_getElem? (i := 13) rfl)
theorem mw_662 : Cond.selects RX9 yX9_chooses yX9_chooses ∈ UW := uw_r28 _ (List.mem_of_getElem? (i := 14) rfl)
theorem mw_663 : Cond.code yX9_chooses cX9_chooses 2 none ∈ UW := uw_r28 _ (List.mem_of_getElem? (i := 15) rfl)
theorem mw_664 : Cond.methodLink RX9 248 yX9_isRow ∈ UW := uw_r28 _ (List.mem_of_getElem? (i := 16) rfl)
theorem mw_665 : Cond.instanceMethod yX9_isRow ∈ UW := uw_r28 _ (List.mem_of_getElem? (i := 17) rfl)
theorem mw_666 : Cond.selects RX9 yX9_isRow yX9_isRow ∈ UW := uw_r28 _ (List.mem_of_getElem? (i := 18) rfl)
theorem mw_667 : Cond.code yX9_isRow cX9_isRow 4 (some .boolean) ∈ UW := uw_r28 _ (List.mem_of_getElem? (i := 19) rfl)
theorem mw_668 : Cond.methodLink RX9 242 yX9_six ∈ UW := uw_r28 _ (List.mem_of_getElem? (i := 20) rfl)
theorem mw_669 : Cond.instanceMethod yX9_six ∈ UW := uw_r28 _ (List.mem_of_getElem? (i := 21) rfl)
theorem mw_670 : Cond.selects RX9 yX9_six yX9_six ∈ UW := uw_r28 _ (List.mem_of_getElem? (i := 22) rfl)
theorem mw_671 : Cond.code yX9_six cX9_six 1 (some .int) ∈ UW := uw_r28 _ (List.mem_of_getElem? (i := 23) rfl)
theorem mw_672 : Cond.methodLink RX9 251 yX9_isRest ∈ UW := uw_r29 _ (List.mem_of_getElem? (i := 0) rfl)
theorem mw_673 : Cond.instanceMethod yX9_isRest ∈ UW := uw_r29 _ (List.mem_of_getElem? (i := 1) rfl)
theorem mw_674 : Cond.selects RX9 yX9_isRest yX9_isRest ∈ UW := uw_r29 _ (List.mem_of_getElem? (i := 2) rfl)
theorem mw_675 : Cond.code yX9_isRest cX9_isRest 6 (some .boolean) ∈ UW := uw_r29 _ (List.mem_of_getElem? (i := 3) rfl)
theorem mw_676 : Cond.methodLink RX9 239 yX9_mostTold ∈ UW := uw_r29 _ (List.mem_of_getElem? (i := 4) rfl)
theorem mw_677 : Cond.instanceMethod yX9_mostTold ∈ UW := uw_r29 _ (List.mem_of_getElem? (i := 5) rfl)
theorem mw_678 : Cond.selects RX9 yX9_mostTold yX9_mostTold ∈ UW := uw_r29 _ (List.mem_of_getElem? (i := 6) rfl)
theorem mw_679 : Cond.code yX9_mostTold cX9_mostTold 3 (some .int) ∈ UW := uw_r29 _ (List.mem_of_getElem? (i := 7) rfl)
theorem mw_680 : Cond.methodLink RL 95 yX8_rests ∈ UW := uw_r29 _ (List.mem_of_getElem? (i := 8) rfl)
theorem mw_681 : Cond.instanceMethod yX8_rests ∈ UW := uw_r29 _ (List.mem_of_getElem? (i := 9) rfl)
theorem mw_682 : Cond.selects RX8 yX8_rests yX8_rests ∈ UW := uw_r29 _ (List.mem_of_getElem? (i := 10) rfl)
theorem mw_683 : Cond.code yX8_rests cX8_rests 1 (some .int) ∈ UW := uw_r29 _ (List.mem_of_getElem? (i := 11) rfl)
theorem mw_684 : Cond.methodLink RX8 224 yX0_restfulRows ∈ UW := uw_r29 _ (List.mem_of_getElem? (i := 12) rfl)
theorem mw_685 : Cond.instanceMethod yX0_restfulRows ∈ UW := uw_r29 _ (List.mem_of_getElem? (i := 13) rfl)
theorem mw_686 : Cond.selects RX0 yX0_restfulRows yX0_restfulRows ∈ UW := uw_r29 _ (List.mem_of_getElem? (i := 14) rfl)
theorem mw_687 : Cond.code yX0_restfulRows cX0_restfulRows 1 (some .int) ∈ UW := uw_r29 _ (List.mem_of_getElem? (i := 15) rfl)
theorem mw_688 : Cond.fieldLink RX0 72 "PoundVotes$Ballot" "restVersion" "I" ∈ UW := uw_r29 _ (List.mem_of_getElem? (i := 16) rfl)
theorem mw_689 : Cond.fieldLink RX0 75 "PoundVotes$Roll" "version" "I" ∈ UW := uw_r29 _ (List.mem_of_getElem? (i := 17) rfl)
theorem mw_690 : Cond.fieldLink RX0 81 "PoundVotes$Ballot" "restCount" "I" ∈ UW := uw_r29 _ (List.mem_of_getElem? (i := 18) rfl)
theorem mw_691 : Cond.methodLink RX0 78 yX0_restsOfSpread ∈ UW := uw_r29 _ (List.mem_of_getElem? (i := 19) rfl)
theorem mw_692 : Cond.instanceMethod yX0_restsOfSpread ∈ UW := uw_r29 _ (List.mem_of_getElem? (i := 20) rfl)
theorem mw_693 : Cond.selects RX0 yX0_restsOfSpread yX0_restsOfSpread ∈ UW := uw_r29 _ (List.mem_of_getElem? (i := 21) rfl)
theorem mw_694 : Cond.code yX0_restsOfSpread cX0_restsOfSpread 5 (some .int) ∈ UW := uw_r29 _ (List.mem_of_getElem? (i := 22) rfl)
theorem mw_695 : Cond.methodLink RX0 98 yX0_restsOfSums ∈ UW := uw_r29 _ (List.mem_of_getElem? (i := 23) rfl)
theorem mw_696 : Cond.instanceMethod yX0_restsOfSums ∈ UW := uw_r30 _ (List.mem_of_getElem? (i := 0) rfl)
theorem mw_697 : Cond.selects RX0 yX0_restsOfSums yX0_restsOfSums ∈ UW := uw_r30 _ (List.mem_of_getElem? (i := 1) rfl)
theorem mw_698 : Cond.code yX0_restsOfSums cX0_restsOfSums 5 (some .int) ∈ UW := uw_r30 _ (List.mem_of_getElem? (i := 2) rfl)
theorem mw_699 : Cond.methodLink RX0 101 yX0_rowsFrom ∈ UW := uw_r30 _ (List.mem_of_getElem? (i := 3) rfl)
theorem mw_700 : Cond.instanceMethod yX0_rowsFrom ∈ UW := uw_r30 _ (List.mem_of_getElem? (i := 4) rfl)
theorem mw_701 : Cond.selects RX0 yX0_rowsFrom yX0_rowsFrom ∈ UW := uw_r30 _ (List.mem_of_getElem? (i := 5) rfl)
theorem mw_702 : Cond.code yX0_rowsFrom cX0_rowsFrom 4 (some .int) ∈ UW := uw_r30 _ (List.mem_of_getElem? (i := 6) rfl)
theorem mw_703 : Cond.methodLink RL 98 yX9_rests ∈ UW := uw_r30 _ (List.mem_of_getElem? (i := 7) rfl)
theorem mw_704 : Cond.instanceMethod yX9_rests ∈ UW := uw_r30 _ (List.mem_of_getElem? (i := 8) rfl)
theorem mw_705 : Cond.selects RX9 yX9_rests yX9_rests ∈ UW := uw_r30 _ (List.mem_of_getElem? (i := 9) rfl)
theorem mw_706 : Cond.code yX9_rests cX9_rests 1 (some .int) ∈ UW := uw_r30 _ (List.mem_of_getElem? (i := 10) rfl)
theorem mw_707 : Cond.methodLink RX9 260 yX9_restsNow ∈ UW := uw_r30 _ (List.mem_of_getElem? (i := 11) rfl)
theorem mw_708 : Cond.instanceMethod yX9_restsNow ∈ UW := uw_r30 _ (List.mem_of_getElem? (i := 12) rfl)
theorem mw_709 : Cond.selects RX9 yX9_restsNow yX9_restsNow ∈ UW := uw_r30 _ (List.mem_of_getElem? (i := 13) rfl)
theorem mw_710 : Cond.code yX9_restsNow cX9_restsNow 3 (some .int) ∈ UW := uw_r30 _ (List.mem_of_getElem? (i := 14) rfl)
theorem mw_711 : Cond.methodLink RL 99 yX8_wins ∈ UW := uw_r30 _ (List.mem_of_getElem? (i := 15) rfl)
theorem mw_712 : Cond.instanceMethod yX8_wins ∈ UW := uw_r30 _ (List.mem_of_getElem? (i := 16) rfl)
theorem mw_713 : Cond.selects RX8 yX8_wins yX8_wins ∈ UW := uw_r30 _ (List.mem_of_getElem? (i := 17) rfl)
theorem mw_714 : Cond.code yX8_wins cX8_wins 3 (some .int) ∈ UW := uw_r30 _ (List.mem_of_getElem? (i := 18) rfl)
theorem mw_715 : Cond.methodLink RX8 227 yX0_winningTicket ∈ UW := uw_r30 _ (List.mem_of_getElem? (i := 19) rfl)
theorem mw_716 : Cond.instanceMethod yX0_winningTicket ∈ UW := uw_r30 _ (List.mem_of_getElem? (i := 20) rfl)
theorem mw_717 : Cond.selects RX0 yX0_winningTicket yX0_winningTicket ∈ UW := uw_r30 _ (List.mem_of_getElem? (i := 21) rfl)
theorem mw_718 : Cond.code yX0_winningTicket cX0_winningTicket 2 (some .int) ∈ UW := uw_r30 _ (List.mem_of_getElem? (i := 22) rfl)
theorem mw_719 : Cond.methodLink RX0 105 yX0_findWin ∈ UW := uw_r30 _ (List.mem_of_getElem? (i := 23) rfl)
theorem mw_720 : Cond.instanceMethod yX0_findWin ∈ UW := uw_r31 _ (List.mem_of_getElem? (i := 0) rfl)
theorem mw_721 : Cond.selects RX0 yX0_findWin yX0_findWin ∈ UW := uw_r31 _ (List.mem_of_getElem? (i := 1) rfl)
theorem mw_722 : Cond.code yX0_findWin cX0_findWin 5 none ∈ UW := uw_r31 _ (List.mem_of_getElem? (i := 2) rfl)
theorem mw_723 : Cond.methodLink RX0 109 yX0_fillSupport ∈ UW := uw_r31 _ (List.mem_of_getElem? (i := 3) rfl)
theorem mw_724 : Cond.instanceMethod yX0_fillSupport ∈ UW := uw_r31 _ (List.mem_of_getElem? (i := 4) rfl)
theorem mw_725 : Cond.selects RX0 yX0_fillSupport yX0_fillSupport ∈ UW := uw_r31 _ (List.mem_of_getElem? (i := 5) rfl)
theorem mw_726 : Cond.code yX0_fillSupport cX0_fillSupport 5 none ∈ UW := uw_r31 _ (List.mem_of_getElem? (i := 6) rfl)
theorem mw_727 : Cond.methodLink RX0 116 yX2_owed ∈ UW := uw_r31 _ (List.mem_of_getElem? (i := 7) rfl)
theorem mw_728 : Cond.methodLink RX0 119 yX2_unitOf ∈ UW := uw_r31 _ (List.mem_of_getElem? (i := 8) rfl)
theorem mw_729 : Cond.methodLink RX0 122 yX0_supportPlace ∈ UW := uw_r31 _ (List.mem_of_getElem? (i := 9) rfl)
theorem mw_730 : Cond.static yX0_supportPlace ∈ UW := uw_r31 _ (List.mem_of_getElem? (i := 10) rfl)
theorem mw_731 : Cond.code yX0_supportPlace cX0_supportPlace 2 (some .int) ∈ UW := uw_r31 _ (List.mem_of_getElem? (i := 11) rfl)
theorem mw_732 : Cond.methodLink RX0 112 yX0_tryTicket ∈ UW := uw_r31 _ (List.mem_of_getElem? (i := 12) rfl)
theorem mw_733 : Cond.instanceMethod yX0_tryTicket ∈ UW := uw_r31 _ (List.mem_of_getElem? (i := 13) rfl)
theorem mw_734 : Cond.selects RX0 yX0_tryTicket yX0_tryTicket ∈ UW := uw_r31 _ (List.mem_of_getElem? (i := 14) rfl)
theorem mw_735 : Cond.code yX0_tryTicket cX0_tryTicket 7 none ∈ UW := uw_r31 _ (List.mem_of_getElem? (i := 15) rfl)
theorem mw_736 : Cond.methodLink RX0 129 Lib.Math.abs.name ∈ UW := uw_r31 _ (List.mem_of_getElem? (i := 16) rfl)
theorem mw_737 : Cond.methodLink RX0 125 yX2_figure ∈ UW := uw_r31 _ (List.mem_of_getElem? (i := 17) rfl)
theorem mw_738 : Cond.methodLink RX8 230 yX0_winningUnlikeness ∈ UW := uw_r31 _ (List.mem_of_getElem? (i := 18) rfl)
theorem mw_739 : Cond.instanceMethod yX0_winningUnlikeness ∈ UW := uw_r31 _ (List.mem_of_getElem? (i := 19) rfl)
theorem mw_740 : Cond.selects RX0 yX0_winningUnlikeness yX0_winningUnlikeness ∈ UW := uw_r31 _ (List.mem_of_getElem? (i := 20) rfl)
theorem mw_741 : Cond.code yX0_winningUnlikeness cX0_winningUnlikeness 2 (some .int) ∈ UW := uw_r31 _ (List.mem_of_getElem? (i := 21) rfl)
theorem mw_742 : Cond.methodLink RL 102 yX9_wins ∈ UW := uw_r31 _ (List.mem_of_getElem? (i := 22) rfl)
theorem mw_743 : Cond.instanceMethod yX9_wins ∈ UW := uw_r31 _ (List.mem_of_getElem? (i := 23) rfl)
theorem mw_744 : Cond.selects RX9 yX9_wins yX9_wins ∈ UW := uw_r32 _ (List.mem_of_getElem? (i := 0) rfl)
theorem mw_745 : Cond.code yX9_wins cX9_wins 3 (some .int) ∈ UW := uw_r32 _ (List.mem_of_getElem? (i := 1) rfl)
theorem mw_746 : Cond.methodLink RX9 271 yX9_findWish ∈ UW := uw_r32 _ (List.mem_of_getElem? (i := 2) rfl)
theorem mw_747 : Cond.instanceMethod yX9_findWish ∈ UW := uw_r32 _ (List.mem_of_getElem? (i := 3) rfl)
theorem mw_748 : Cond.selects RX9 yX9_findWish yX9_findWish ∈ UW := uw_r32 _ (List.mem_of_getElem? (i := 4) rfl)
theorem mw_749 : Cond.code yX9_findWish cX9_findWish 7 none ∈ UW := uw_r32 _ (List.mem_of_getElem? (i := 5) rfl)
theorem mw_750 : Cond.methodLink RX9 267 yX9_isElectedBy ∈ UW := uw_r32 _ (List.mem_of_getElem? (i := 6) rfl)
theorem mw_751 : Cond.instanceMethod yX9_isElectedBy ∈ UW := uw_r32 _ (List.mem_of_getElem? (i := 7) rfl)
theorem mw_752 : Cond.selects RX9 yX9_isElectedBy yX9_isElectedBy ∈ UW := uw_r32 _ (List.mem_of_getElem? (i := 8) rfl)
theorem mw_753 : Cond.code yX9_isElectedBy cX9_isElectedBy 5 (some .boolean) ∈ UW := uw_r32 _ (List.mem_of_getElem? (i := 9) rfl)
theorem mw_754 : Cond.methodLink RX9 263 yX9_gainBy ∈ UW := uw_r32 _ (List.mem_of_getElem? (i := 10) rfl)
theorem mw_755 : Cond.instanceMethod yX9_gainBy ∈ UW := uw_r32 _ (List.mem_of_getElem? (i := 11) rfl)
theorem mw_756 : Cond.selects RX9 yX9_gainBy yX9_gainBy ∈ UW := uw_r32 _ (List.mem_of_getElem? (i := 12) rfl)
theorem mw_757 : Cond.code yX9_gainBy cX9_gainBy 7 (some .int) ∈ UW := uw_r32 _ (List.mem_of_getElem? (i := 13) rfl)
theorem mw_758 : Cond.methodLink RL 103 yX8_hedge ∈ UW := uw_r32 _ (List.mem_of_getElem? (i := 14) rfl)
theorem mw_759 : Cond.instanceMethod yX8_hedge ∈ UW := uw_r32 _ (List.mem_of_getElem? (i := 15) rfl)
theorem mw_760 : Cond.selects RX8 yX8_hedge yX8_hedge ∈ UW := uw_r32 _ (List.mem_of_getElem? (i := 16) rfl)
theorem mw_761 : Cond.code yX8_hedge cX8_hedge 2 (some .int) ∈ UW := uw_r32 _ (List.mem_of_getElem? (i := 17) rfl)
theorem mw_762 : Cond.methodLink RX8 233 yX0_evenHolding ∈ UW := uw_r32 _ (List.mem_of_getElem? (i := 18) rfl)
theorem mw_763 : Cond.instanceMethod yX0_evenHolding ∈ UW := uw_r32 _ (List.mem_of_getElem? (i := 19) rfl)
theorem mw_764 : Cond.selects RX0 yX0_evenHolding yX0_evenHolding ∈ UW := uw_r32 _ (List.mem_of_getElem? (i := 20) rfl)
theorem mw_765 : Cond.code yX0_evenHolding cX0_evenHolding 8 (some .int) ∈ UW := uw_r32 _ (List.mem_of_getElem? (i := 21) rfl)
theorem mw_766 : Cond.methodLink RX0 134 yX0_fillOdds ∈ UW := uw_r32 _ (List.mem_of_getElem? (i := 22) rfl)
theorem mw_767 : Cond.instanceMethod yX0_fillOdds ∈ UW := uw_r32 _ (List.mem_of_getElem? (i := 23) rfl)
theorem mw_768 : Cond.selects RX0 yX0_fillOdds yX0_fillOdds ∈ UW := uw_r33 _ (List.mem_of_getElem? (i := 0) rfl)
theorem mw_769 : Cond.code yX0_fillOdds cX0_fillOdds 4 none ∈ UW := uw_r33 _ (List.mem_of_getElem? (i := 1) rfl)
theorem mw_770 : Cond.methodLink RX0 141 yX2_gain ∈ UW := uw_r33 _ (List.mem_of_getElem? (i := 2) rfl)
theorem mw_771 : Cond.methodLink RX0 137 yX0_isEven ∈ UW := uw_r33 _ (List.mem_of_getElem? (i := 3) rfl)
theorem mw_772 : Cond.instanceMethod yX0_isEven ∈ UW := uw_r33 _ (List.mem_of_getElem? (i := 4) rfl)
theorem mw_773 : Cond.selects RX0 yX0_isEven yX0_isEven ∈ UW := uw_r33 _ (List.mem_of_getElem? (i := 5) rfl)
theorem mw_774 : Cond.code yX0_isEven cX0_isEven 6 (some .boolean) ∈ UW := uw_r33 _ (List.mem_of_getElem? (i := 6) rfl)
theorem mw_775 : Cond.methodLink RL 106 yX9_hedge ∈ UW := uw_r33 _ (List.mem_of_getElem? (i := 7) rfl)
theorem mw_776 : Cond.instanceMethod yX9_hedge ∈ UW := uw_r33 _ (List.mem_of_getElem? (i := 8) rfl)
theorem mw_777 : Cond.selects RX9 yX9_hedge yX9_hedge ∈ UW := uw_r33 _ (List.mem_of_getElem? (i := 9) rfl)
theorem mw_778 : Cond.code yX9_hedge cX9_hedge 2 (some .int) ∈ UW := uw_r33 _ (List.mem_of_getElem? (i := 10) rfl)
theorem mw_779 : Cond.methodLink RX9 277 yX9_hedgeOf ∈ UW := uw_r33 _ (List.mem_of_getElem? (i := 11) rfl)
theorem mw_780 : Cond.instanceMethod yX9_hedgeOf ∈ UW := uw_r33 _ (List.mem_of_getElem? (i := 12) rfl)
theorem mw_781 : Cond.selects RX9 yX9_hedgeOf yX9_hedgeOf ∈ UW := uw_r33 _ (List.mem_of_getElem? (i := 13) rfl)
theorem mw_782 : Cond.code yX9_hedgeOf cX9_hedgeOf 8 (some .int) ∈ UW := uw_r33 _ (List.mem_of_getElem? (i := 14) rfl)
theorem mw_783 : Cond.methodLink RX9 274 yX9_isHedged ∈ UW := uw_r33 _ (List.mem_of_getElem? (i := 15) rfl)
theorem mw_784 : Cond.instanceMethod yX9_isHedged ∈ UW := uw_r33 _ (List.mem_of_getElem? (i := 16) rfl)
theorem mw_785 : Cond.selects RX9 yX9_isHedged yX9_isHedged ∈ UW := uw_r33 _ (List.mem_of_getElem? (i := 17) rfl)
theorem mw_786 : Cond.code yX9_isHedged cX9_isHedged 9 (some .boolean) ∈ UW := uw_r33 _ (List.mem_of_getElem? (i := 18) rfl)
theorem mw_787 : Cond.methodLink RL 107 yX8_worth ∈ UW := uw_r33 _ (List.mem_of_getElem? (i := 19) rfl)
theorem mw_788 : Cond.instanceMethod yX8_worth ∈ UW := uw_r33 _ (List.mem_of_getElem? (i := 20) rfl)
theorem mw_789 : Cond.selects RX8 yX8_worth yX8_worth ∈ UW := uw_r33 _ (List.mem_of_getElem? (i := 21) rfl)
theorem mw_790 : Cond.code yX8_worth cX8_worth 4 (some .long) ∈ UW := uw_r33 _ (List.mem_of_getElem? (i := 22) rfl)
theorem mw_791 : Cond.constantLong RX8 239 (-9223372036854775806) ∈ UW := uw_r33 _ (List.mem_of_getElem? (i := 23) rfl)
theorem mw_792 : Cond.constantLong RX8 248 (-9223372036854775805) ∈ UW := uw_r34 _ (List.mem_of_getElem? (i := 0) rfl)
theorem mw_793 : Cond.methodLink RX8 236 yX7_isKind ∈ UW := uw_r34 _ (List.mem_of_getElem? (i := 1) rfl)
theorem mw_794 : Cond.static yX7_isKind ∈ UW := uw_r34 _ (List.mem_of_getElem? (i := 2) rfl)
theorem mw_795 : Cond.code yX7_isKind cX7_isKind 1 (some .boolean) ∈ UW := uw_r34 _ (List.mem_of_getElem? (i := 3) rfl)
theorem mw_796 : Cond.methodLink RX8 241 yX7_firstClash ∈ UW := uw_r34 _ (List.mem_of_getElem? (i := 4) rfl)
theorem mw_797 : Cond.instanceMethod yX7_firstClash ∈ UW := uw_r34 _ (List.mem_of_getElem? (i := 5) rfl)
theorem mw_798 : Cond.selects RX7 yX7_firstClash yX7_firstClash ∈ UW := uw_r34 _ (List.mem_of_getElem? (i := 6) rfl)
theorem mw_799 : Cond.code yX7_firstClash cX7_firstClash 5 (some .int) ∈ UW := uw_r34 _ (List.mem_of_getElem? (i := 7) rfl)
theorem mw_800 : Cond.methodLink RX7 26 yX5_items ∈ UW := uw_r34 _ (List.mem_of_getElem? (i := 8) rfl)
theorem mw_801 : Cond.methodLink RX7 32 yX7_startAnew ∈ UW := uw_r34 _ (List.mem_of_getElem? (i := 9) rfl)
theorem mw_802 : Cond.instanceMethod yX7_startAnew ∈ UW := uw_r34 _ (List.mem_of_getElem? (i := 10) rfl)
theorem mw_803 : Cond.selects RX7 yX7_startAnew yX7_startAnew ∈ UW := uw_r34 _ (List.mem_of_getElem? (i := 11) rfl)
theorem mw_804 : Cond.code yX7_startAnew cX7_startAnew 2 none ∈ UW := uw_r34 _ (List.mem_of_getElem? (i := 12) rfl)
theorem mw_805 : Cond.methodLink RX7 35 yX7_takes ∈ UW := uw_r34 _ (List.mem_of_getElem? (i := 13) rfl)
theorem mw_806 : Cond.instanceMethod yX7_takes ∈ UW := uw_r34 _ (List.mem_of_getElem? (i := 14) rfl)
theorem mw_807 : Cond.selects RX7 yX7_takes yX7_takes ∈ UW := uw_r34 _ (List.mem_of_getElem? (i := 15) rfl)
theorem mw_808 : Cond.code yX7_takes cX7_takes 7 (some .boolean) ∈ UW := uw_r34 _ (List.mem_of_getElem? (i := 16) rfl)
theorem mw_809 : Cond.methodLink RX7 49 yX5_byteOf ∈ UW := uw_r34 _ (List.mem_of_getElem? (i := 17) rfl)
theorem mw_810 : Cond.methodLink RX7 53 yX7_isTold ∈ UW := uw_r34 _ (List.mem_of_getElem? (i := 18) rfl)
theorem mw_811 : Cond.instanceMethod yX7_isTold ∈ UW := uw_r34 _ (List.mem_of_getElem? (i := 19) rfl)
theorem mw_812 : Cond.selects RX7 yX7_isTold yX7_isTold ∈ UW := uw_r34 _ (List.mem_of_getElem? (i := 20) rfl)
theorem mw_813 : Cond.code yX7_isTold cX7_isTold 3 (some .boolean) ∈ UW := uw_r34 _ (List.mem_of_getElem? (i := 21) rfl)
theorem mw_814 : Cond.methodLink RX7 57 yX7_join ∈ UW := uw_r34 _ (List.mem_of_getElem? (i := 22) rfl)
theorem mw_815 : Cond.instanceMethod yX7_join ∈ UW := uw_r34 _ (List.mem_of_getElem? (i := 23) rfl)
theorem mw_816 : Cond.selects RX7 yX7_join yX7_join ∈ UW := uw_r35 _ (List.mem_of_getElem? (i := 0) rfl)
theorem mw_817 : Cond.code yX7_join cX7_join 17 none ∈ UW := uw_r35 _ (List.mem_of_getElem? (i := 1) rfl)
theorem mw_818 : Cond.static yX8_commonDivisor ∈ UW := uw_r35 _ (List.mem_of_getElem? (i := 2) rfl)
theorem mw_819 : Cond.code yX8_commonDivisor cX8_commonDivisor 11 (some .long) ∈ UW := uw_r35 _ (List.mem_of_getElem? (i := 3) rfl)
theorem mw_820 : Cond.methodLink RX8 245 yX7_isTold ∈ UW := uw_r35 _ (List.mem_of_getElem? (i := 4) rfl)
theorem mw_821 : Cond.methodLink RX8 250 yX7_aboveOf ∈ UW := uw_r35 _ (List.mem_of_getElem? (i := 5) rfl)
theorem mw_822 : Cond.instanceMethod yX7_aboveOf ∈ UW := uw_r35 _ (List.mem_of_getElem? (i := 6) rfl)
theorem mw_823 : Cond.selects RX7 yX7_aboveOf yX7_aboveOf ∈ UW := uw_r35 _ (List.mem_of_getElem? (i := 7) rfl)
theorem mw_824 : Cond.code yX7_aboveOf cX7_aboveOf 7 (some .long) ∈ UW := uw_r35 _ (List.mem_of_getElem? (i := 8) rfl)
theorem mw_825 : Cond.methodLink RL 111 yX9_worth ∈ UW := uw_r35 _ (List.mem_of_getElem? (i := 9) rfl)
theorem mw_826 : Cond.instanceMethod yX9_worth ∈ UW := uw_r35 _ (List.mem_of_getElem? (i := 10) rfl)
theorem mw_827 : Cond.selects RX9 yX9_worth yX9_worth ∈ UW := uw_r35 _ (List.mem_of_getElem? (i := 11) rfl)
theorem mw_828 : Cond.code yX9_worth cX9_worth 4 (some .long) ∈ UW := uw_r35 _ (List.mem_of_getElem? (i := 12) rfl)
theorem mw_829 : Cond.constantLong RX9 301 (5) ∈ UW := uw_r35 _ (List.mem_of_getElem? (i := 13) rfl)
theorem mw_830 : Cond.methodLink RX9 303 yX9_worthOf ∈ UW := uw_r35 _ (List.mem_of_getElem? (i := 14) rfl)
theorem mw_831 : Cond.instanceMethod yX9_worthOf ∈ UW := uw_r35 _ (List.mem_of_getElem? (i := 15) rfl)
theorem mw_832 : Cond.selects RX9 yX9_worthOf yX9_worthOf ∈ UW := uw_r35 _ (List.mem_of_getElem? (i := 16) rfl)
theorem mw_833 : Cond.code yX9_worthOf cX9_worthOf 8 (some .long) ∈ UW := uw_r35 _ (List.mem_of_getElem? (i := 17) rfl)
theorem mw_834 : Cond.methodLink RX9 294 yX9_finds ∈ UW := uw_r35 _ (List.mem_of_getElem? (i := 18) rfl)
theorem mw_835 : Cond.instanceMethod yX9_finds ∈ UW := uw_r35 _ (List.mem_of_getElem? (i := 19) rfl)
theorem mw_836 : Cond.selects RX9 yX9_finds yX9_finds ∈ UW := uw_r35 _ (List.mem_of_getElem? (i := 20) rfl)
theorem mw_837 : Cond.code yX9_finds cX9_finds 8 (some .boolean) ∈ UW := uw_r35 _ (List.mem_of_getElem? (i := 21) rfl)
theorem mw_838 : Cond.fieldLink RX9 284 "PoundVotesModel" "firstClash" "I" ∈ UW := uw_r35 _ (List.mem_of_getElem? (i := 22) rfl)
theorem mw_839 : Cond.methodLink RX9 287 yX9_isIn ∈ UW := uw_r35 _ (List.mem_of_getElem? (i := 23) rfl)
theorem mw_840 : Cond.static yX9_isIn ∈ UW := uw_r36 _ (List.mem_of_getElem? (i := 0) rfl)
theorem mw_841 : Cond.code yX9_isIn cX9_isIn 2 (some .boolean) ∈ UW := uw_r36 _ (List.mem_of_getElem? (i := 1) rfl)
theorem mw_842 : Cond.methodLink RX9 290 yX9_joins ∈ UW := uw_r36 _ (List.mem_of_getElem? (i := 2) rfl)
theorem mw_843 : Cond.instanceMethod yX9_joins ∈ UW := uw_r36 _ (List.mem_of_getElem? (i := 3) rfl)
theorem mw_844 : Cond.selects RX9 yX9_joins yX9_joins ∈ UW := uw_r36 _ (List.mem_of_getElem? (i := 4) rfl)
theorem mw_845 : Cond.code yX9_joins cX9_joins 14 none ∈ UW := uw_r36 _ (List.mem_of_getElem? (i := 5) rfl)
theorem mw_846 : Cond.methodLink RX9 280 yX9_common ∈ UW := uw_r36 _ (List.mem_of_getElem? (i := 6) rfl)
theorem mw_847 : Cond.static yX9_common ∈ UW := uw_r36 _ (List.mem_of_getElem? (i := 7) rfl)
theorem mw_848 : Cond.code yX9_common cX9_common 10 (some .long) ∈ UW := uw_r36 _ (List.mem_of_getElem? (i := 8) rfl)
theorem mw_849 : Cond.methodLink RX9 297 yX9_no ∈ UW := uw_r36 _ (List.mem_of_getElem? (i := 9) rfl)
theorem mw_850 : Cond.static yX9_no ∈ UW := uw_r36 _ (List.mem_of_getElem? (i := 10) rfl)
theorem mw_851 : Cond.code yX9_no cX9_no 1 (some .long) ∈ UW := uw_r36 _ (List.mem_of_getElem? (i := 11) rfl)
theorem mw_852 : Cond.constantLong RX9 86 (-9223372036854775808) ∈ UW := uw_r36 _ (List.mem_of_getElem? (i := 12) rfl)
theorem mw_853 : Cond.methodLink RL 112 yX8_clash ∈ UW := uw_r36 _ (List.mem_of_getElem? (i := 13) rfl)
theorem mw_854 : Cond.instanceMethod yX8_clash ∈ UW := uw_r36 _ (List.mem_of_getElem? (i := 14) rfl)
theorem mw_855 : Cond.selects RX8 yX8_clash yX8_clash ∈ UW := uw_r36 _ (List.mem_of_getElem? (i := 15) rfl)
theorem mw_856 : Cond.code yX8_clash cX8_clash 1 (some .int) ∈ UW := uw_r36 _ (List.mem_of_getElem? (i := 16) rfl)
theorem mw_857 : Cond.methodLink RL 115 yX9_clash ∈ UW := uw_r36 _ (List.mem_of_getElem? (i := 17) rfl)
theorem mw_858 : Cond.instanceMethod yX9_clash ∈ UW := uw_r36 _ (List.mem_of_getElem? (i := 18) rfl)
theorem mw_859 : Cond.selects RX9 yX9_clash yX9_clash ∈ UW := uw_r36 _ (List.mem_of_getElem? (i := 19) rfl)
theorem mw_860 : Cond.code yX9_clash cX9_clash 1 (some .int) ∈ UW := uw_r36 _ (List.mem_of_getElem? (i := 20) rfl)
theorem mw_861 : Cond.methodLink RL 116 yX8_drop ∈ UW := uw_r36 _ (List.mem_of_getElem? (i := 21) rfl)
theorem mw_862 : Cond.instanceMethod yX8_drop ∈ UW := uw_r36 _ (List.mem_of_getElem? (i := 22) rfl)
theorem mw_863 : Cond.selects RX8 yX8_drop yX8_drop ∈ UW := uw_r36 _ (List.mem_of_getElem? (i := 23) rfl)
theorem mw_864 : Cond.code yX8_drop cX8_drop 1 (some .int) ∈ UW := uw_r37 _ (List.mem_of_getElem? (i := 0) rfl)
theorem mw_865 : Cond.methodLink RX8 254 yX7_fewestDropped ∈ UW := uw_r37 _ (List.mem_of_getElem? (i := 1) rfl)
theorem mw_866 : Cond.instanceMethod yX7_fewestDropped ∈ UW := uw_r37 _ (List.mem_of_getElem? (i := 2) rfl)
theorem mw_867 : Cond.selects RX7 yX7_fewestDropped yX7_fewestDropped ∈ UW := uw_r37 _ (List.mem_of_getElem? (i := 3) rfl)
theorem mw_868 : Cond.code yX7_fewestDropped cX7_fewestDropped 5 (some .int) ∈ UW := uw_r37 _ (List.mem_of_getElem? (i := 4) rfl)
theorem mw_869 : Cond.methodLink RX7 39 yJ6_bitCount_0f7a4 ∈ UW := uw_r37 _ (List.mem_of_getElem? (i := 5) rfl)
theorem mw_870 : Cond.static yJ6_bitCount_0f7a4 ∈ UW := uw_r37 _ (List.mem_of_getElem? (i := 6) rfl)
theorem mw_871 : Cond.initialized RJ6 ∈ UW := uw_r37 _ (List.mem_of_getElem? (i := 7) rfl)
theorem mw_872 : Cond.code yJ6_bitCount_0f7a4 cJ6_bitCount_0f7a4 1 (some .int) ∈ UW := uw_r37 _ (List.mem_of_getElem? (i := 8) rfl)
theorem mw_873 : Cond.constant RJ6 265 (1431655765) ∈ UW := uw_r37 _ (List.mem_of_getElem? (i := 9) rfl)
theorem mw_874 : Cond.constant RJ6 266 (858993459) ∈ UW := uw_r37 _ (List.mem_of_getElem? (i := 10) rfl)
theorem mw_875 : Cond.constant RJ6 267 (252645135) ∈ UW := uw_r37 _ (List.mem_of_getElem? (i := 11) rfl)
theorem mw_876 : Cond.methodLink RX7 45 yX7_agreesWithout ∈ UW := uw_r37 _ (List.mem_of_getElem? (i := 12) rfl)
theorem mw_877 : Cond.instanceMethod yX7_agreesWithout ∈ UW := uw_r37 _ (List.mem_of_getElem? (i := 13) rfl)
theorem mw_878 : Cond.selects RX7 yX7_agreesWithout yX7_agreesWithout ∈ UW := uw_r37 _ (List.mem_of_getElem? (i := 14) rfl)
theorem mw_879 : Cond.code yX7_agreesWithout cX7_agreesWithout 5 (some .boolean) ∈ UW := uw_r37 _ (List.mem_of_getElem? (i := 15) rfl)
theorem mw_880 : Cond.methodLink RL 119 yX9_drop ∈ UW := uw_r37 _ (List.mem_of_getElem? (i := 16) rfl)
theorem mw_881 : Cond.instanceMethod yX9_drop ∈ UW := uw_r37 _ (List.mem_of_getElem? (i := 17) rfl)
theorem mw_882 : Cond.selects RX9 yX9_drop yX9_drop ∈ UW := uw_r37 _ (List.mem_of_getElem? (i := 18) rfl)
theorem mw_883 : Cond.code yX9_drop cX9_drop 1 (some .int) ∈ UW := uw_r37 _ (List.mem_of_getElem? (i := 19) rfl)
theorem mw_884 : Cond.methodLink RX9 310 yX9_dropNow ∈ UW := uw_r37 _ (List.mem_of_getElem? (i := 20) rfl)
theorem mw_885 : Cond.instanceMethod yX9_dropNow ∈ UW := uw_r37 _ (List.mem_of_getElem? (i := 21) rfl)
theorem mw_886 : Cond.selects RX9 yX9_dropNow yX9_dropNow ∈ UW := uw_r37 _ (List.mem_of_getElem? (i := 22) rfl)
theorem mw_887 : Cond.code yX9_dropNow cX9_dropNow 4 (some .int) ∈ UW := uw_r37 _ (List.mem_of_getElem? (i := 23) rfl)
theorem mw_888 : Cond.methodLink RX9 307 yX9_ones ∈ UW := uw_r38 _ (List.mem_of_getElem? (i := 0) rfl)
theorem mw_889 : Cond.static yX9_ones ∈ UW := uw_r38 _ (List.mem_of_getElem? (i := 1) rfl)
theorem mw_890 : Cond.code yX9_ones cX9_ones 3 (some .int) ∈ UW := uw_r38 _ (List.mem_of_getElem? (i := 2) rfl)
theorem mw_891 : Cond.methodLink RL 120 yX8_rate ∈ UW := uw_r38 _ (List.mem_of_getElem? (i := 3) rfl)
theorem mw_892 : Cond.instanceMethod yX8_rate ∈ UW := uw_r38 _ (List.mem_of_getElem? (i := 4) rfl)
theorem mw_893 : Cond.selects RX8 yX8_rate yX8_rate ∈ UW := uw_r38 _ (List.mem_of_getElem? (i := 5) rfl)
theorem mw_894 : Cond.code yX8_rate cX8_rate 5 (some .int) ∈ UW := uw_r38 _ (List.mem_of_getElem? (i := 6) rfl)
theorem mw_895 : Cond.methodLink RX8 257 yX6_isTown ∈ UW := uw_r38 _ (List.mem_of_getElem? (i := 7) rfl)
theorem mw_896 : Cond.static yX6_isTown ∈ UW := uw_r38 _ (List.mem_of_getElem? (i := 8) rfl)
theorem mw_897 : Cond.code yX6_isTown cX6_isTown 1 (some .boolean) ∈ UW := uw_r38 _ (List.mem_of_getElem? (i := 9) rfl)
theorem mw_898 : Cond.methodLink RX8 260 yX6_replaceRate ∈ UW := uw_r38 _ (List.mem_of_getElem? (i := 10) rfl)
theorem mw_899 : Cond.instanceMethod yX6_replaceRate ∈ UW := uw_r38 _ (List.mem_of_getElem? (i := 11) rfl)
theorem mw_900 : Cond.selects RX6 yX6_replaceRate yX6_replaceRate ∈ UW := uw_r38 _ (List.mem_of_getElem? (i := 12) rfl)
theorem mw_901 : Cond.code yX6_replaceRate cX6_replaceRate 7 (some .int) ∈ UW := uw_r38 _ (List.mem_of_getElem? (i := 13) rfl)
theorem mw_902 : Cond.methodLink RL 123 yX9_rate ∈ UW := uw_r38 _ (List.mem_of_getElem? (i := 14) rfl)
theorem mw_903 : Cond.instanceMethod yX9_rate ∈ UW := uw_r38 _ (List.mem_of_getElem? (i := 15) rfl)
theorem mw_904 : Cond.selects RX9 yX9_rate yX9_rate ∈ UW := uw_r38 _ (List.mem_of_getElem? (i := 16) rfl)
theorem mw_905 : Cond.code yX9_rate cX9_rate 7 (some .int) ∈ UW := uw_r38 _ (List.mem_of_getElem? (i := 17) rfl)
theorem mw_906 : Cond.methodLink RL 124 yX8_round ∈ UW := uw_r38 _ (List.mem_of_getElem? (i := 18) rfl)
theorem mw_907 : Cond.instanceMethod yX8_round ∈ UW := uw_r38 _ (List.mem_of_getElem? (i := 19) rfl)
theorem mw_908 : Cond.selects RX8 yX8_round yX8_round ∈ UW := uw_r38 _ (List.mem_of_getElem? (i := 20) rfl)
theorem mw_909 : Cond.code yX8_round cX8_round 2 (some .int) ∈ UW := uw_r38 _ (List.mem_of_getElem? (i := 21) rfl)
theorem mw_910 : Cond.fieldLink RX8 267 "PoundVotes$Towns" "bestAbove" "I" ∈ UW := uw_r38 _ (List.mem_of_getElem? (i := 22) rfl)
theorem mw_911 : Cond.fieldLink RX8 270 "PoundVotes$Towns" "bestBelow" "I" ∈ UW := uw_r38 _ (List.mem_of_getElem? (i := 23) rfl)
theorem mw_912 : Cond.methodLink RX8 264 yX6_findRound ∈ UW := uw_r39 _ (List.mem_of_getElem? (i := 0) rfl)
theorem mw_913 : Cond.instanceMethod yX6_findRound ∈ UW := uw_r39 _ (List.mem_of_getElem? (i := 1) rfl)
theorem mw_914 : Cond.selects RX6 yX6_findRound yX6_findRound ∈ UW := uw_r39 _ (List.mem_of_getElem? (i := 2) rfl)
theorem mw_915 : Cond.code yX6_findRound cX6_findRound 3 none ∈ UW := uw_r39 _ (List.mem_of_getElem? (i := 3) rfl)
theorem mw_916 : Cond.fieldLink RX6 41 "PoundVotes$Towns" "bestLength" "I" ∈ UW := uw_r39 _ (List.mem_of_getElem? (i := 4) rfl)
theorem mw_917 : Cond.methodLink RX6 44 yX6_goOn ∈ UW := uw_r39 _ (List.mem_of_getElem? (i := 5) rfl)
theorem mw_918 : Cond.instanceMethod yX6_goOn ∈ UW := uw_r39 _ (List.mem_of_getElem? (i := 6) rfl)
theorem mw_919 : Cond.selects RX6 yX6_goOn yX6_goOn ∈ UW := uw_r39 _ (List.mem_of_getElem? (i := 7) rfl)
theorem mw_920 : Cond.code yX6_goOn cX6_goOn 7 none ∈ UW := uw_r39 _ (List.mem_of_getElem? (i := 8) rfl)
theorem mw_921 : Cond.methodLink RX6 52 yX6_comeBack ∈ UW := uw_r39 _ (List.mem_of_getElem? (i := 9) rfl)
theorem mw_922 : Cond.instanceMethod yX6_comeBack ∈ UW := uw_r39 _ (List.mem_of_getElem? (i := 10) rfl)
theorem mw_923 : Cond.selects RX6 yX6_comeBack yX6_comeBack ∈ UW := uw_r39 _ (List.mem_of_getElem? (i := 11) rfl)
theorem mw_924 : Cond.code yX6_comeBack cX6_comeBack 4 none ∈ UW := uw_r39 _ (List.mem_of_getElem? (i := 12) rfl)
theorem mw_925 : Cond.methodLink RX6 60 arraycopyName ∈ UW := uw_r39 _ (List.mem_of_getElem? (i := 13) rfl)
theorem mw_926 : Cond.methodLink RX6 56 yX6_isOnWay ∈ UW := uw_r39 _ (List.mem_of_getElem? (i := 14) rfl)
theorem mw_927 : Cond.instanceMethod yX6_isOnWay ∈ UW := uw_r39 _ (List.mem_of_getElem? (i := 15) rfl)
theorem mw_928 : Cond.selects RX6 yX6_isOnWay yX6_isOnWay ∈ UW := uw_r39 _ (List.mem_of_getElem? (i := 16) rfl)
theorem mw_929 : Cond.code yX6_isOnWay cX6_isOnWay 4 (some .boolean) ∈ UW := uw_r39 _ (List.mem_of_getElem? (i := 17) rfl)
theorem mw_930 : Cond.methodLink RX8 273 yX6_bestTown ∈ UW := uw_r39 _ (List.mem_of_getElem? (i := 18) rfl)
theorem mw_931 : Cond.instanceMethod yX6_bestTown ∈ UW := uw_r39 _ (List.mem_of_getElem? (i := 19) rfl)
theorem mw_932 : Cond.selects RX6 yX6_bestTown yX6_bestTown ∈ UW := uw_r39 _ (List.mem_of_getElem? (i := 20) rfl)
theorem mw_933 : Cond.code yX6_bestTown cX6_bestTown 2 (some .int) ∈ UW := uw_r39 _ (List.mem_of_getElem? (i := 21) rfl)
theorem mw_934 : Cond.methodLink RL 127 yX9_round ∈ UW := uw_r39 _ (List.mem_of_getElem? (i := 22) rfl)
theorem mw_935 : Cond.instanceMethod yX9_round ∈ UW := uw_r39 _ (List.mem_of_getElem? (i := 23) rfl)
theorem mw_936 : Cond.selects RX9 yX9_round yX9_round ∈ UW := uw_r40 _ (List.mem_of_getElem? (i := 0) rfl)
theorem mw_937 : Cond.code yX9_round cX9_round 2 (some .int) ∈ UW := uw_r40 _ (List.mem_of_getElem? (i := 1) rfl)
theorem mw_938 : Cond.constantLong RX9 328 (-2) ∈ UW := uw_r40 _ (List.mem_of_getElem? (i := 2) rfl)
theorem mw_939 : Cond.methodLink RX9 330 yX9_findRound ∈ UW := uw_r40 _ (List.mem_of_getElem? (i := 3) rfl)
theorem mw_940 : Cond.instanceMethod yX9_findRound ∈ UW := uw_r40 _ (List.mem_of_getElem? (i := 4) rfl)
theorem mw_941 : Cond.selects RX9 yX9_findRound yX9_findRound ∈ UW := uw_r40 _ (List.mem_of_getElem? (i := 5) rfl)
theorem mw_942 : Cond.code yX9_findRound cX9_findRound 7 none ∈ UW := uw_r40 _ (List.mem_of_getElem? (i := 6) rfl)
theorem mw_943 : Cond.fieldLink RX9 316 "PoundVotesModel" "bestTowns" "I" ∈ UW := uw_r40 _ (List.mem_of_getElem? (i := 7) rfl)
theorem mw_944 : Cond.fieldLink RX9 319 "PoundVotesModel" "bestAbove" "I" ∈ UW := uw_r40 _ (List.mem_of_getElem? (i := 8) rfl)
theorem mw_945 : Cond.fieldLink RX9 322 "PoundVotesModel" "bestBelow" "I" ∈ UW := uw_r40 _ (List.mem_of_getElem? (i := 9) rfl)
theorem mw_946 : Cond.methodLink RX9 313 yX9_digit ∈ UW := uw_r40 _ (List.mem_of_getElem? (i := 10) rfl)
theorem mw_947 : Cond.static yX9_digit ∈ UW := uw_r40 _ (List.mem_of_getElem? (i := 11) rfl)
theorem mw_948 : Cond.code yX9_digit cX9_digit 3 (some .int) ∈ UW := uw_r40 _ (List.mem_of_getElem? (i := 12) rfl)
theorem mw_949 : Cond.methodLink RX9 325 yX9_isTour ∈ UW := uw_r40 _ (List.mem_of_getElem? (i := 13) rfl)
theorem mw_950 : Cond.static yX9_isTour ∈ UW := uw_r40 _ (List.mem_of_getElem? (i := 14) rfl)
theorem mw_951 : Cond.code yX9_isTour cX9_isTour 6 (some .boolean) ∈ UW := uw_r40 _ (List.mem_of_getElem? (i := 15) rfl)
theorem mw_952 : Cond.methodLink RX9 333 yX9_tellsRound ∈ UW := uw_r40 _ (List.mem_of_getElem? (i := 16) rfl)
theorem mw_953 : Cond.instanceMethod yX9_tellsRound ∈ UW := uw_r40 _ (List.mem_of_getElem? (i := 17) rfl)
theorem mw_954 : Cond.selects RX9 yX9_tellsRound yX9_tellsRound ∈ UW := uw_r40 _ (List.mem_of_getElem? (i := 18) rfl)
theorem mw_955 : Cond.code yX9_tellsRound cX9_tellsRound 3 (some .int) ∈ UW := uw_r40 _ (List.mem_of_getElem? (i := 19) rfl)
theorem mw_956 : Cond.methodLink RL 128 yX8_bill ∈ UW := uw_r40 _ (List.mem_of_getElem? (i := 20) rfl)
theorem mw_957 : Cond.instanceMethod yX8_bill ∈ UW := uw_r40 _ (List.mem_of_getElem? (i := 21) rfl)
theorem mw_958 : Cond.selects RX8 yX8_bill yX8_bill ∈ UW := uw_r40 _ (List.mem_of_getElem? (i := 22) rfl)
theorem mw_959 : Cond.code yX8_bill cX8_bill 5 (some .int) ∈ UW := uw_r40 _ (List.mem_of_getElem? (i := 23) rfl)
theorem mw_960 : Cond.methodLink RL 131 yX9_bill ∈ UW := uw_r41 _ (List.mem_of_getElem? (i := 0) rfl)
theorem mw_961 : Cond.instanceMethod yX9_bill ∈ UW := uw_r41 _ (List.mem_of_getElem? (i := 1) rfl)
theorem mw_962 : Cond.selects RX9 yX9_bill yX9_bill ∈ UW := uw_r41 _ (List.mem_of_getElem? (i := 2) rfl)
theorem mw_963 : Cond.code yX9_bill cX9_bill 4 (some .int) ∈ UW := uw_r41 _ (List.mem_of_getElem? (i := 3) rfl)
theorem mw_964 : Cond.methodLink RL 132 yX8_years ∈ UW := uw_r41 _ (List.mem_of_getElem? (i := 4) rfl)
theorem mw_965 : Cond.instanceMethod yX8_years ∈ UW := uw_r41 _ (List.mem_of_getElem? (i := 5) rfl)
theorem mw_966 : Cond.selects RX8 yX8_years yX8_years ∈ UW := uw_r41 _ (List.mem_of_getElem? (i := 6) rfl)
theorem mw_967 : Cond.code yX8_years cX8_years 7 (some .int) ∈ UW := uw_r41 _ (List.mem_of_getElem? (i := 7) rfl)
theorem mw_968 : Cond.methodLink RL 135 yX9_years ∈ UW := uw_r41 _ (List.mem_of_getElem? (i := 8) rfl)
theorem mw_969 : Cond.instanceMethod yX9_years ∈ UW := uw_r41 _ (List.mem_of_getElem? (i := 9) rfl)
theorem mw_970 : Cond.selects RX9 yX9_years yX9_years ∈ UW := uw_r41 _ (List.mem_of_getElem? (i := 10) rfl)
theorem mw_971 : Cond.code yX9_years cX9_years 1 (some .int) ∈ UW := uw_r41 _ (List.mem_of_getElem? (i := 11) rfl)
theorem mw_972 : Cond.methodLink RX9 339 yX9_yearsNow ∈ UW := uw_r41 _ (List.mem_of_getElem? (i := 12) rfl)
theorem mw_973 : Cond.instanceMethod yX9_yearsNow ∈ UW := uw_r41 _ (List.mem_of_getElem? (i := 13) rfl)
theorem mw_974 : Cond.selects RX9 yX9_yearsNow yX9_yearsNow ∈ UW := uw_r41 _ (List.mem_of_getElem? (i := 14) rfl)
theorem mw_975 : Cond.code yX9_yearsNow cX9_yearsNow 5 (some .int) ∈ UW := uw_r41 _ (List.mem_of_getElem? (i := 15) rfl)
theorem mw_976 : Cond.methodLink RL 136 yX8_sheet ∈ UW := uw_r41 _ (List.mem_of_getElem? (i := 16) rfl)
theorem mw_977 : Cond.instanceMethod yX8_sheet ∈ UW := uw_r41 _ (List.mem_of_getElem? (i := 17) rfl)
theorem mw_978 : Cond.selects RX8 yX8_sheet yX8_sheet ∈ UW := uw_r41 _ (List.mem_of_getElem? (i := 18) rfl)
theorem mw_979 : Cond.code yX8_sheet cX8_sheet 4 (some .int) ∈ UW := uw_r41 _ (List.mem_of_getElem? (i := 19) rfl)
theorem mw_980 : Cond.methodLink RX8 276 yX4_isSheet ∈ UW := uw_r41 _ (List.mem_of_getElem? (i := 20) rfl)
theorem mw_981 : Cond.static yX4_isSheet ∈ UW := uw_r41 _ (List.mem_of_getElem? (i := 21) rfl)
theorem mw_982 : Cond.code yX4_isSheet cX4_isSheet 1 (some .boolean) ∈ UW := uw_r41 _ (List.mem_of_getElem? (i := 22) rfl)
theorem mw_983 : Cond.methodLink RX8 279 yX4_isForm ∈ UW := uw_r41 _ (List.mem_of_getElem? (i := 23) rfl)
theorem mw_984 : Cond.static yX4_isForm ∈ UW := uw_r42 _ (List.mem_of_getElem? (i := 0) rfl)
theorem mw_985 : Cond.code yX4_isForm cX4_isForm 1 (some .boolean) ∈ UW := uw_r42 _ (List.mem_of_getElem? (i := 1) rfl)
theorem mw_986 : Cond.methodLink RX8 282 yX8_find ∈ UW := uw_r42 _ (List.mem_of_getElem? (i := 2) rfl)
theorem mw_987 : Cond.instanceMethod yX8_find ∈ UW := uw_r42 _ (List.mem_of_getElem? (i := 3) rfl)
theorem mw_988 : Cond.selects RX8 yX8_find yX8_find ∈ UW := uw_r42 _ (List.mem_of_getElem? (i := 4) rfl)
theorem mw_989 : Cond.code yX8_find cX8_find 2 (some .int) ∈ UW := uw_r42 _ (List.mem_of_getElem? (i := 5) rfl)
theorem mw_990 : Cond.methodLink RX8 285 yX4_begin ∈ UW := uw_r42 _ (List.mem_of_getElem? (i := 6) rfl)
theorem mw_991 : Cond.instanceMethod yX4_begin ∈ UW := uw_r42 _ (List.mem_of_getElem? (i := 7) rfl)
theorem mw_992 : Cond.selects RX4 yX4_begin yX4_begin ∈ UW := uw_r42 _ (List.mem_of_getElem? (i := 8) rfl)
theorem mw_993 : Cond.code yX4_begin cX4_begin 4 none ∈ UW := uw_r42 _ (List.mem_of_getElem? (i := 9) rfl)
theorem mw_994 : Cond.methodLink RL 139 yX9_sheet ∈ UW := uw_r42 _ (List.mem_of_getElem? (i := 10) rfl)
theorem mw_995 : Cond.instanceMethod yX9_sheet ∈ UW := uw_r42 _ (List.mem_of_getElem? (i := 11) rfl)
theorem mw_996 : Cond.selects RX9 yX9_sheet yX9_sheet ∈ UW := uw_r42 _ (List.mem_of_getElem? (i := 12) rfl)
theorem mw_997 : Cond.code yX9_sheet cX9_sheet 5 (some .int) ∈ UW := uw_r42 _ (List.mem_of_getElem? (i := 13) rfl)
theorem mw_998 : Cond.methodLink RX9 98 yX9_isSheet ∈ UW := uw_r42 _ (List.mem_of_getElem? (i := 14) rfl)
theorem mw_999 : Cond.static yX9_isSheet ∈ UW := uw_r42 _ (List.mem_of_getElem? (i := 15) rfl)
theorem mw_1000 : Cond.code yX9_isSheet cX9_isSheet 1 (some .boolean) ∈ UW := uw_r42 _ (List.mem_of_getElem? (i := 16) rfl)
theorem mw_1001 : Cond.methodLink RX9 104 yX9_met ∈ UW := uw_r42 _ (List.mem_of_getElem? (i := 17) rfl)
theorem mw_1002 : Cond.instanceMethod yX9_met ∈ UW := uw_r42 _ (List.mem_of_getElem? (i := 18) rfl)
theorem mw_1003 : Cond.selects RX9 yX9_met yX9_met ∈ UW := uw_r42 _ (List.mem_of_getElem? (i := 19) rfl)
theorem mw_1004 : Cond.code yX9_met cX9_met 2 (some .int) ∈ UW := uw_r42 _ (List.mem_of_getElem? (i := 20) rfl)
theorem mw_1005 : Cond.fieldLink RX9 92 "PoundVotesModel" "latest" "I" ∈ UW := uw_r42 _ (List.mem_of_getElem? (i := 21) rfl)
theorem mw_1006 : Cond.methodLink RL 140 yX8_lose ∈ UW := uw_r42 _ (List.mem_of_getElem? (i := 22) rfl)
theorem mw_1007 : Cond.instanceMethod yX8_lose ∈ UW := uw_r42 _ (List.mem_of_getElem? (i := 23) rfl)
theorem mw_1008 : Cond.selects RX8 yX8_lose yX8_lose ∈ UW := uw_r43 _ (List.mem_of_getElem? (i := 0) rfl)
theorem mw_1009 : Cond.code yX8_lose cX8_lose 3 (some .int) ∈ UW := uw_r43 _ (List.mem_of_getElem? (i := 1) rfl)
theorem mw_1010 : Cond.fieldLink RX8 292 "PoundVotes$Sheets" "sizes" "[I" ∈ UW := uw_r43 _ (List.mem_of_getElem? (i := 2) rfl)
theorem mw_1011 : Cond.methodLink RX8 289 yX4_isLost ∈ UW := uw_r43 _ (List.mem_of_getElem? (i := 3) rfl)
theorem mw_1012 : Cond.instanceMethod yX4_isLost ∈ UW := uw_r43 _ (List.mem_of_getElem? (i := 4) rfl)
theorem mw_1013 : Cond.selects RX4 yX4_isLost yX4_isLost ∈ UW := uw_r43 _ (List.mem_of_getElem? (i := 5) rfl)
theorem mw_1014 : Cond.code yX4_isLost cX4_isLost 2 (some .boolean) ∈ UW := uw_r43 _ (List.mem_of_getElem? (i := 6) rfl)
theorem mw_1015 : Cond.methodLink RX8 295 yX4_forget ∈ UW := uw_r43 _ (List.mem_of_getElem? (i := 7) rfl)
theorem mw_1016 : Cond.instanceMethod yX4_forget ∈ UW := uw_r43 _ (List.mem_of_getElem? (i := 8) rfl)
theorem mw_1017 : Cond.selects RX4 yX4_forget yX4_forget ∈ UW := uw_r43 _ (List.mem_of_getElem? (i := 9) rfl)
theorem mw_1018 : Cond.code yX4_forget cX4_forget 2 none ∈ UW := uw_r43 _ (List.mem_of_getElem? (i := 10) rfl)
theorem mw_1019 : Cond.methodLink RL 143 yX9_lose ∈ UW := uw_r43 _ (List.mem_of_getElem? (i := 11) rfl)
theorem mw_1020 : Cond.instanceMethod yX9_lose ∈ UW := uw_r43 _ (List.mem_of_getElem? (i := 12) rfl)
theorem mw_1021 : Cond.selects RX9 yX9_lose yX9_lose ∈ UW := uw_r43 _ (List.mem_of_getElem? (i := 13) rfl)
theorem mw_1022 : Cond.code yX9_lose cX9_lose 2 (some .int) ∈ UW := uw_r43 _ (List.mem_of_getElem? (i := 14) rfl)
theorem mw_1023 : Cond.methodLink RL 144 yX8_lay ∈ UW := uw_r43 _ (List.mem_of_getElem? (i := 15) rfl)
theorem mw_1024 : Cond.instanceMethod yX8_lay ∈ UW := uw_r43 _ (List.mem_of_getElem? (i := 16) rfl)
theorem mw_1025 : Cond.selects RX8 yX8_lay yX8_lay ∈ UW := uw_r43 _ (List.mem_of_getElem? (i := 17) rfl)
theorem mw_1026 : Cond.code yX8_lay cX8_lay 6 (some .int) ∈ UW := uw_r43 _ (List.mem_of_getElem? (i := 18) rfl)
theorem mw_1027 : Cond.methodLink RX8 298 yX4_accessFinding ∈ UW := uw_r43 _ (List.mem_of_getElem? (i := 19) rfl)
theorem mw_1028 : Cond.instanceMethod yX4_accessFinding ∈ UW := uw_r43 _ (List.mem_of_getElem? (i := 20) rfl)
theorem mw_1029 : Cond.selects RX4 yX4_accessFinding yX4_accessFinding ∈ UW := uw_r43 _ (List.mem_of_getElem? (i := 21) rfl)
theorem mw_1030 : Cond.code yX4_accessFinding cX4_accessFinding 4 (some .int) ∈ UW := uw_r43 _ (List.mem_of_getElem? (i := 22) rfl)
theorem mw_1031 : Cond.methodLink RX4 33 yX4_isLost ∈ UW := uw_r43 _ (List.mem_of_getElem? (i := 23) rfl)
theorem mw_1032 : Cond.methodLink RX8 301 yX4_store ∈ UW := uw_r44 _ (List.mem_of_getElem? (i := 0) rfl)
theorem mw_1033 : Cond.instanceMethod yX4_store ∈ UW := uw_r44 _ (List.mem_of_getElem? (i := 1) rfl)
theorem mw_1034 : Cond.selects RX4 yX4_store yX4_store ∈ UW := uw_r44 _ (List.mem_of_getElem? (i := 2) rfl)
theorem mw_1035 : Cond.code yX4_store cX4_store 4 none ∈ UW := uw_r44 _ (List.mem_of_getElem? (i := 3) rfl)
theorem mw_1036 : Cond.methodLink RL 147 yX9_lay ∈ UW := uw_r44 _ (List.mem_of_getElem? (i := 4) rfl)
theorem mw_1037 : Cond.instanceMethod yX9_lay ∈ UW := uw_r44 _ (List.mem_of_getElem? (i := 5) rfl)
theorem mw_1038 : Cond.selects RX9 yX9_lay yX9_lay ∈ UW := uw_r44 _ (List.mem_of_getElem? (i := 6) rfl)
theorem mw_1039 : Cond.code yX9_lay cX9_lay 6 (some .int) ∈ UW := uw_r44 _ (List.mem_of_getElem? (i := 7) rfl)
theorem mw_1040 : Cond.methodLink RX9 108 yX9_lacks ∈ UW := uw_r44 _ (List.mem_of_getElem? (i := 8) rfl)
theorem mw_1041 : Cond.instanceMethod yX9_lacks ∈ UW := uw_r44 _ (List.mem_of_getElem? (i := 9) rfl)
theorem mw_1042 : Cond.selects RX9 yX9_lacks yX9_lacks ∈ UW := uw_r44 _ (List.mem_of_getElem? (i := 10) rfl)
theorem mw_1043 : Cond.code yX9_lacks cX9_lacks 4 (some .int) ∈ UW := uw_r44 _ (List.mem_of_getElem? (i := 11) rfl)
theorem mw_1044 : Cond.methodLink RX9 112 yX9_cut ∈ UW := uw_r44 _ (List.mem_of_getElem? (i := 12) rfl)
theorem mw_1045 : Cond.static yX9_cut ∈ UW := uw_r44 _ (List.mem_of_getElem? (i := 13) rfl)
theorem mw_1046 : Cond.code yX9_cut cX9_cut 2 (some .int) ∈ UW := uw_r44 _ (List.mem_of_getElem? (i := 14) rfl)
theorem mw_1047 : Cond.methodLink RL 148 yX8_get ∈ UW := uw_r44 _ (List.mem_of_getElem? (i := 15) rfl)
theorem mw_1048 : Cond.instanceMethod yX8_get ∈ UW := uw_r44 _ (List.mem_of_getElem? (i := 16) rfl)
theorem mw_1049 : Cond.selects RX8 yX8_get yX8_get ∈ UW := uw_r44 _ (List.mem_of_getElem? (i := 17) rfl)
theorem mw_1050 : Cond.code yX8_get cX8_get 5 (some .int) ∈ UW := uw_r44 _ (List.mem_of_getElem? (i := 18) rfl)
theorem mw_1051 : Cond.constant RX8 304 (-2147483648) ∈ UW := uw_r44 _ (List.mem_of_getElem? (i := 19) rfl)
theorem mw_1052 : Cond.fieldLink RX8 305 "PoundVotes$Sheets" "items" "[[I" ∈ UW := uw_r44 _ (List.mem_of_getElem? (i := 20) rfl)
theorem mw_1053 : Cond.methodLink RL 151 yX9_get ∈ UW := uw_r44 _ (List.mem_of_getElem? (i := 21) rfl)
theorem mw_1054 : Cond.instanceMethod yX9_get ∈ UW := uw_r44 _ (List.mem_of_getElem? (i := 22) rfl)
theorem mw_1055 : Cond.selects RX9 yX9_get yX9_get ∈ UW := uw_r44 _ (List.mem_of_getElem? (i := 23) rfl)
theorem mw_1056 : Cond.code yX9_get cX9_get 4 (some .int) ∈ UW := uw_r45 _ (List.mem_of_getElem? (i := 0) rfl)
theorem mw_1057 : Cond.constant RX9 116 (-2147483648) ∈ UW := uw_r45 _ (List.mem_of_getElem? (i := 1) rfl)
theorem mw_1058 : Cond.methodLink RL 152 yX8_copy ∈ UW := uw_r45 _ (List.mem_of_getElem? (i := 2) rfl)
theorem mw_1059 : Cond.instanceMethod yX8_copy ∈ UW := uw_r45 _ (List.mem_of_getElem? (i := 3) rfl)
theorem mw_1060 : Cond.selects RX8 yX8_copy yX8_copy ∈ UW := uw_r45 _ (List.mem_of_getElem? (i := 4) rfl)
theorem mw_1061 : Cond.code yX8_copy cX8_copy 6 (some .int) ∈ UW := uw_r45 _ (List.mem_of_getElem? (i := 5) rfl)
theorem mw_1062 : Cond.fieldLink RX8 308 "PoundVotes$Sheets" "forms" "[I" ∈ UW := uw_r45 _ (List.mem_of_getElem? (i := 6) rfl)
theorem mw_1063 : Cond.methodLink RX8 311 yX4_hasItems ∈ UW := uw_r45 _ (List.mem_of_getElem? (i := 7) rfl)
theorem mw_1064 : Cond.instanceMethod yX4_hasItems ∈ UW := uw_r45 _ (List.mem_of_getElem? (i := 8) rfl)
theorem mw_1065 : Cond.selects RX4 yX4_hasItems yX4_hasItems ∈ UW := uw_r45 _ (List.mem_of_getElem? (i := 9) rfl)
theorem mw_1066 : Cond.code yX4_hasItems cX4_hasItems 4 (some .boolean) ∈ UW := uw_r45 _ (List.mem_of_getElem? (i := 10) rfl)
theorem mw_1067 : Cond.methodLink RL 156 yX9_copy ∈ UW := uw_r45 _ (List.mem_of_getElem? (i := 11) rfl)
theorem mw_1068 : Cond.instanceMethod yX9_copy ∈ UW := uw_r45 _ (List.mem_of_getElem? (i := 12) rfl)
theorem mw_1069 : Cond.selects RX9 yX9_copy yX9_copy ∈ UW := uw_r45 _ (List.mem_of_getElem? (i := 13) rfl)
theorem mw_1070 : Cond.code yX9_copy cX9_copy 7 (some .int) ∈ UW := uw_r45 _ (List.mem_of_getElem? (i := 14) rfl)
theorem mw_1071 : Cond.methodLink RL 157 yX8_read ∈ UW := uw_r45 _ (List.mem_of_getElem? (i := 15) rfl)
theorem mw_1072 : Cond.instanceMethod yX8_read ∈ UW := uw_r45 _ (List.mem_of_getElem? (i := 16) rfl)
theorem mw_1073 : Cond.selects RX8 yX8_read yX8_read ∈ UW := uw_r45 _ (List.mem_of_getElem? (i := 17) rfl)
theorem mw_1074 : Cond.code yX8_read cX8_read 5 (some .int) ∈ UW := uw_r45 _ (List.mem_of_getElem? (i := 18) rfl)
theorem mw_1075 : Cond.methodLink RX8 320 Lib.Math.min.name ∈ UW := uw_r45 _ (List.mem_of_getElem? (i := 19) rfl)
theorem mw_1076 : Cond.static Lib.Math.min.name ∈ UW := uw_r45 _ (List.mem_of_getElem? (i := 20) rfl)
theorem mw_1077 : Cond.code Lib.Math.min.name Lib.Math.min.code 2 (some .int) ∈ UW := uw_r45 _ (List.mem_of_getElem? (i := 21) rfl)
theorem mw_1078 : Cond.methodLink RL 160 yX9_read ∈ UW := uw_r45 _ (List.mem_of_getElem? (i := 22) rfl)
theorem mw_1079 : Cond.instanceMethod yX9_read ∈ UW := uw_r45 _ (List.mem_of_getElem? (i := 23) rfl)
theorem mw_1080 : Cond.selects RX9 yX9_read yX9_read ∈ UW := uw_r46 _ (List.mem_of_getElem? (i := 0) rfl)
theorem mw_1081 : Cond.code yX9_read cX9_read 3 (some .int) ∈ UW := uw_r46 _ (List.mem_of_getElem? (i := 1) rfl)
theorem mw_1082 : Cond.methodLink RX9 342 yX9_purse ∈ UW := uw_r46 _ (List.mem_of_getElem? (i := 2) rfl)
theorem mw_1083 : Cond.methodLink RL 161 yX8_write ∈ UW := uw_r46 _ (List.mem_of_getElem? (i := 3) rfl)
theorem mw_1084 : Cond.instanceMethod yX8_write ∈ UW := uw_r46 _ (List.mem_of_getElem? (i := 4) rfl)
theorem mw_1085 : Cond.selects RX8 yX8_write yX8_write ∈ UW := uw_r46 _ (List.mem_of_getElem? (i := 5) rfl)
theorem mw_1086 : Cond.code yX8_write cX8_write 5 (some .int) ∈ UW := uw_r46 _ (List.mem_of_getElem? (i := 6) rfl)
theorem mw_1087 : Cond.methodLink RL 164 yX9_write ∈ UW := uw_r46 _ (List.mem_of_getElem? (i := 7) rfl)
theorem mw_1088 : Cond.instanceMethod yX9_write ∈ UW := uw_r46 _ (List.mem_of_getElem? (i := 8) rfl)
theorem mw_1089 : Cond.selects RX9 yX9_write yX9_write ∈ UW := uw_r46 _ (List.mem_of_getElem? (i := 9) rfl)
theorem mw_1090 : Cond.code yX9_write cX9_write 5 (some .int) ∈ UW := uw_r46 _ (List.mem_of_getElem? (i := 10) rfl)
theorem mw_1091 : Cond.methodLink RL 165 yX8_count ∈ UW := uw_r46 _ (List.mem_of_getElem? (i := 11) rfl)
theorem mw_1092 : Cond.instanceMethod yX8_count ∈ UW := uw_r46 _ (List.mem_of_getElem? (i := 12) rfl)
theorem mw_1093 : Cond.selects RX8 yX8_count yX8_count ∈ UW := uw_r46 _ (List.mem_of_getElem? (i := 13) rfl)
theorem mw_1094 : Cond.code yX8_count cX8_count 2 (some .int) ∈ UW := uw_r46 _ (List.mem_of_getElem? (i := 14) rfl)
theorem mw_1095 : Cond.methodLink RX8 323 yX5_items ∈ UW := uw_r46 _ (List.mem_of_getElem? (i := 15) rfl)
theorem mw_1096 : Cond.methodLink RL 168 yX9_count ∈ UW := uw_r46 _ (List.mem_of_getElem? (i := 16) rfl)
theorem mw_1097 : Cond.instanceMethod yX9_count ∈ UW := uw_r46 _ (List.mem_of_getElem? (i := 17) rfl)
theorem mw_1098 : Cond.selects RX9 yX9_count yX9_count ∈ UW := uw_r46 _ (List.mem_of_getElem? (i := 18) rfl)
theorem mw_1099 : Cond.code yX9_count cX9_count 2 (some .int) ∈ UW := uw_r46 _ (List.mem_of_getElem? (i := 19) rfl)
theorem mw_1100 : Cond.methodLink RL 169 yX8_digest ∈ UW := uw_r46 _ (List.mem_of_getElem? (i := 20) rfl)
theorem mw_1101 : Cond.instanceMethod yX8_digest ∈ UW := uw_r46 _ (List.mem_of_getElem? (i := 21) rfl)
theorem mw_1102 : Cond.selects RX8 yX8_digest yX8_digest ∈ UW := uw_r46 _ (List.mem_of_getElem? (i := 22) rfl)
theorem mw_1103 : Cond.code yX8_digest cX8_digest 4 (some .long) ∈ UW := uw_r46 _ (List.mem_of_getElem? (i := 23) rfl)
theorem mw_1104 : Cond.constantLong RX8 325 (17) ∈ UW := uw_r47 _ (List.mem_of_getElem? (i := 0) rfl)
theorem mw_1105 : Cond.methodLink RX8 327 yX8_count ∈ UW := uw_r47 _ (List.mem_of_getElem? (i := 1) rfl)
theorem mw_1106 : Cond.methodLink RX8 330 yX8_mix ∈ UW := uw_r47 _ (List.mem_of_getElem? (i := 2) rfl)
theorem mw_1107 : Cond.static yX8_mix ∈ UW := uw_r47 _ (List.mem_of_getElem? (i := 3) rfl)
theorem mw_1108 : Cond.code yX8_mix cX8_mix 4 (some .long) ∈ UW := uw_r47 _ (List.mem_of_getElem? (i := 4) rfl)
theorem mw_1109 : Cond.constantLong RX8 405 (31) ∈ UW := uw_r47 _ (List.mem_of_getElem? (i := 5) rfl)
theorem mw_1110 : Cond.methodLink RX8 334 yX8_fault ∈ UW := uw_r47 _ (List.mem_of_getElem? (i := 6) rfl)
theorem mw_1111 : Cond.methodLink RX8 337 yX8_mixYears ∈ UW := uw_r47 _ (List.mem_of_getElem? (i := 7) rfl)
theorem mw_1112 : Cond.instanceMethod yX8_mixYears ∈ UW := uw_r47 _ (List.mem_of_getElem? (i := 8) rfl)
theorem mw_1113 : Cond.selects RX8 yX8_mixYears yX8_mixYears ∈ UW := uw_r47 _ (List.mem_of_getElem? (i := 9) rfl)
theorem mw_1114 : Cond.code yX8_mixYears cX8_mixYears 11 (some .long) ∈ UW := uw_r47 _ (List.mem_of_getElem? (i := 10) rfl)
theorem mw_1115 : Cond.fieldLink RX8 356 "PoundVotes" "DIGEST_YEARS" "[I" ∈ UW := uw_r47 _ (List.mem_of_getElem? (i := 11) rfl)
theorem mw_1116 : Cond.methodLink RX8 359 yX8_elected ∈ UW := uw_r47 _ (List.mem_of_getElem? (i := 12) rfl)
theorem mw_1117 : Cond.methodLink RX8 362 yX8_great ∈ UW := uw_r47 _ (List.mem_of_getElem? (i := 13) rfl)
theorem mw_1118 : Cond.methodLink RX8 365 yX8_ticket ∈ UW := uw_r47 _ (List.mem_of_getElem? (i := 14) rfl)
theorem mw_1119 : Cond.methodLink RX8 368 yX8_votes ∈ UW := uw_r47 _ (List.mem_of_getElem? (i := 15) rfl)
theorem mw_1120 : Cond.methodLink RX8 371 yX8_split ∈ UW := uw_r47 _ (List.mem_of_getElem? (i := 16) rfl)
theorem mw_1121 : Cond.methodLink RX8 341 yX8_mixPeople ∈ UW := uw_r47 _ (List.mem_of_getElem? (i := 17) rfl)
theorem mw_1122 : Cond.instanceMethod yX8_mixPeople ∈ UW := uw_r47 _ (List.mem_of_getElem? (i := 18) rfl)
theorem mw_1123 : Cond.selects RX8 yX8_mixPeople yX8_mixPeople ∈ UW := uw_r47 _ (List.mem_of_getElem? (i := 19) rfl)
theorem mw_1124 : Cond.code yX8_mixPeople cX8_mixPeople 6 (some .long) ∈ UW := uw_r47 _ (List.mem_of_getElem? (i := 20) rfl)
theorem mw_1125 : Cond.methodLink RX8 374 yX8_money ∈ UW := uw_r47 _ (List.mem_of_getElem? (i := 21) rfl)
theorem mw_1126 : Cond.methodLink RX8 377 yX8_hedge ∈ UW := uw_r47 _ (List.mem_of_getElem? (i := 22) rfl)
theorem mw_1127 : Cond.methodLink RX8 380 yX8_ruined ∈ UW := uw_r47 _ (List.mem_of_getElem? (i := 23) rfl)
theorem mw_1128 : Cond.methodLink RX8 383 yX8_worst ∈ UW := uw_r48 _ (List.mem_of_getElem? (i := 0) rfl)
theorem mw_1129 : Cond.methodLink RX8 344 yX8_mixVotes ∈ UW := uw_r48 _ (List.mem_of_getElem? (i := 1) rfl)
theorem mw_1130 : Cond.instanceMethod yX8_mixVotes ∈ UW := uw_r48 _ (List.mem_of_getElem? (i := 2) rfl)
theorem mw_1131 : Cond.selects RX8 yX8_mixVotes yX8_mixVotes ∈ UW := uw_r48 _ (List.mem_of_getElem? (i := 3) rfl)
theorem mw_1132 : Cond.code yX8_mixVotes cX8_mixVotes 6 (some .long) ∈ UW := uw_r48 _ (List.mem_of_getElem? (i := 4) rfl)
theorem mw_1133 : Cond.methodLink RX8 386 yX8_rest ∈ UW := uw_r48 _ (List.mem_of_getElem? (i := 5) rfl)
theorem mw_1134 : Cond.methodLink RX8 389 yX8_rests ∈ UW := uw_r48 _ (List.mem_of_getElem? (i := 6) rfl)
theorem mw_1135 : Cond.methodLink RX8 392 yX8_wins ∈ UW := uw_r48 _ (List.mem_of_getElem? (i := 7) rfl)
theorem mw_1136 : Cond.methodLink RX8 347 yX8_mixRatios ∈ UW := uw_r48 _ (List.mem_of_getElem? (i := 8) rfl)
theorem mw_1137 : Cond.instanceMethod yX8_mixRatios ∈ UW := uw_r48 _ (List.mem_of_getElem? (i := 9) rfl)
theorem mw_1138 : Cond.selects RX8 yX8_mixRatios yX8_mixRatios ∈ UW := uw_r48 _ (List.mem_of_getElem? (i := 10) rfl)
theorem mw_1139 : Cond.code yX8_mixRatios cX8_mixRatios 6 (some .long) ∈ UW := uw_r48 _ (List.mem_of_getElem? (i := 11) rfl)
theorem mw_1140 : Cond.methodLink RX8 395 yX8_worth ∈ UW := uw_r48 _ (List.mem_of_getElem? (i := 12) rfl)
theorem mw_1141 : Cond.methodLink RX8 399 yX8_clash ∈ UW := uw_r48 _ (List.mem_of_getElem? (i := 13) rfl)
theorem mw_1142 : Cond.methodLink RX8 402 yX8_drop ∈ UW := uw_r48 _ (List.mem_of_getElem? (i := 14) rfl)
theorem mw_1143 : Cond.methodLink RX8 350 yX8_round ∈ UW := uw_r48 _ (List.mem_of_getElem? (i := 15) rfl)
theorem mw_1144 : Cond.methodLink RX8 353 yX8_years ∈ UW := uw_r48 _ (List.mem_of_getElem? (i := 16) rfl)
theorem mw_1145 : Cond.methodLink RL 173 yX9_digest ∈ UW := uw_r48 _ (List.mem_of_getElem? (i := 17) rfl)
theorem mw_1146 : Cond.instanceMethod yX9_digest ∈ UW := uw_r48 _ (List.mem_of_getElem? (i := 18) rfl)
theorem mw_1147 : Cond.selects RX9 yX9_digest yX9_digest ∈ UW := uw_r48 _ (List.mem_of_getElem? (i := 19) rfl)
theorem mw_1148 : Cond.code yX9_digest cX9_digest 7 (some .long) ∈ UW := uw_r48 _ (List.mem_of_getElem? (i := 20) rfl)
theorem mw_1149 : Cond.constantLong RX9 345 (17) ∈ UW := uw_r48 _ (List.mem_of_getElem? (i := 21) rfl)
theorem mw_1150 : Cond.constantLong RX9 347 (31) ∈ UW := uw_r48 _ (List.mem_of_getElem? (i := 22) rfl)
theorem mw_1151 : Cond.methodLink RX9 349 yX9_count ∈ UW := uw_r48 _ (List.mem_of_getElem? (i := 23) rfl)
theorem mw_1152 : Cond.methodLink RX9 352 yX9_hedge ∈ UW := uw_r49 _ (List.mem_of_getElem? (i := 0) rfl)
theorem mw_1153 : Cond.methodLink RX9 355 yX9_rest ∈ UW := uw_r49 _ (List.mem_of_getElem? (i := 1) rfl)
theorem mw_1154 : Cond.methodLink RX9 358 yX9_worth ∈ UW := uw_r49 _ (List.mem_of_getElem? (i := 2) rfl)
theorem mw_1155 : Cond.methodLink RX9 361 yX9_clash ∈ UW := uw_r49 _ (List.mem_of_getElem? (i := 3) rfl)
end
section
/-! memory: ints by cell and place, longs by cell and place; cells are numbered in the order in which they are made -/
abbrev pv_M : Type := (Nat → Nat → Int32) × (Nat → Nat → Int64)
def pv_u {α : Type} (f : Nat → Nat → α) (k j : Nat) (v : α) : Nat → Nat → α := fun a b => if a = k ∧ b = j then v else f a b
def pv_row {α : Type} (f : Nat → Nat → α) (k : Nat) (r : Nat → α) : Nat → Nat → α := fun a b => if a = k then r b else f a b
theorem pv_u_row {α : Type} (f : Nat → Nat → α) (k j : Nat) (v : α) : pv_u f k j v k = fun b => if b = j then v else f k b := by
  funext b
  simp [pv_u]
theorem pv_u_ne {α : Type} (f : Nat → Nat → α) {k a : Nat} (j : Nat) (v : α) (h : a ≠ k) : pv_u f k j v a = f a := by
  funext b
  simp [pv_u, h]
theorem pv_row_eq {α : Type} (f : Nat → Nat → α) (k : Nat) (r : Nat → α) : pv_row f k r k = r := by
  funext b
  simp [pv_row]
theorem pv_row_ne {α : Type} (f : Nat → Nat → α) {k a : Nat} (r : Nat → α) (h : a ≠ k) : pv_row f k r a = f a := by
  funext b
  simp [pv_row, h]
/-- the kind of a cell (0 ints, 1 longs, 2 rows, c + 3 an object of class c) and its size -/
def pv_shl : List (Nat × Nat) := [(11, 20), (8, 3), (0, 15), (8, 3), (0, 31), (8, 3), (0, 31), (6, 2), (2, 10), (0, 4), (0, 4), (0, 4), (0, 4), (0, 4), (0, 4), (0, 4), (0, 4), (0, 4), (0, 4), (6, 2), (2, 8), (0, 6), (0, 6), (0, 6), (0, 6), (0, 6), (0, 6), (0, 6), (0, 6), (6, 2), (2, 6), (0, 3), (0, 3), (0, 3), (0, 3), (0, 3), (0, 3), (0, 8), (0, 8), (5, 6), (2, 10), (0, 12), (0, 12), (0, 12), (0, 12), (0, 12), (0, 12), (0, 12), (0, 12), (0, 12), (0, 12), (0, 8), (0, 8), (4, 7), (2, 10), (0, 3), (0, 3), (0, 3), (0, 3), (0, 3), (0, 3), (0, 3), (0, 3), (0, 3), (0, 3), (2, 10), (0, 3), (0, 3), (0, 3), (0, 3), (0, 3), (0, 3), (0, 3), (0, 3), (0, 3), (0, 3), (2, 10), (0, 12), (0, 12), (0, 12), (0, 12), (0, 12), (0, 12), (0, 12), (0, 12), (0, 12), (0, 12), (0, 4), (4, 7), (2, 10), (0, 3), (0, 3), (0, 3), (0, 3), (0, 3), (0, 3), (0, 3), (0, 3), (0, 3), (0, 3), (2, 10), (0, 3), (0, 3), (0, 3), (0, 3), (0, 3), (0, 3), (0, 3), (0, 3), (0, 3), (0, 3), (2, 10), (0, 12), (0, 12), (0, 12), (0, 12), (0, 12), (0, 12), (0, 12), (0, 12), (0, 12), (0, 12), (0, 4), (4, 7), (2, 10), (0, 3), (0, 3), (0, 3), (0, 3), (0, 3), (0, 3), (0, 3), (0, 3), (0, 3), (0, 3), (2, 10), (0, 3), (0, 3), (0, 3), (0, 3), (0, 3), (0, 3), (0, 3), (0, 3), (0, 3), (0, 3), (2, 10), (0, 12), (0, 12), (0, 12), (0, 12), (0, 12), (0, 12), (0, 12), (0, 12), (0, 12), (0, 12), (0, 4), (3, 13), (0, 4), (0, 4), (0, 4), (2, 6), (0, 4), (0, 4), (0, 4), (0, 4), (0, 4), (0, 4), (0, 6), (0, 108), (0, 4), (0, 4), (0, 4), (2, 4), (0, 4), (0, 4), (0, 4), (0, 4), (10, 3), (0, 6), (1, 6), (1, 6), (9, 7), (0, 4), (0, 4), (0, 16), (0, 16), (7, 3), (0, 4), (0, 4), (2, 4), (0, 60), (0, 60), (0, 60), (0, 60), (12, 34), (0, 4), (0, 4), (0, 240), (0, 60), (0, 120), (0, 3), (0, 3), (0, 72), (0, 2), (0, 8), (0, 40), (0, 30), (0, 120), (0, 30), (0, 48), (0, 8), (0, 4), (0, 8), (0, 2), (0, 6), (1, 6), (1, 6), (0, 32), (0, 4), (0, 18)]
def pv_SH (k : Nat) : Nat × Nat := pv_shl.getD k (99, 0)
abbrev pv_T : Nat := 222
/-- what the fields that hold references hold, once all is made -/
def pv_RF (k j : Nat) : Option Nat := match k, j with
  | 0, 0 => some 1
  | 0, 1 => some 3
  | 0, 2 => some 5
  | 0, 3 => some 7
  | 0, 4 => some 19
  | 0, 5 => some 29
  | 0, 6 => some 37
  | 0, 7 => some 38
  | 0, 8 => some 39
  | 0, 9 => some 53
  | 0, 10 => some 88
  | 0, 11 => some 123
  | 0, 12 => some 158
  | 0, 13 => some 179
  | 0, 14 => some 183
  | 0, 15 => some 188
  | 1, 1 => some 2
  | 3, 1 => some 4
  | 5, 1 => some 6
  | 7, 0 => some 8
  | 19, 0 => some 20
  | 29, 0 => some 30
  | 39, 3 => some 40
  | 39, 4 => some 51
  | 39, 5 => some 52
  | 53, 0 => some 39
  | 53, 2 => some 54
  | 53, 3 => some 65
  | 53, 4 => some 76
  | 53, 5 => some 87
  | 88, 0 => some 39
  | 88, 2 => some 89
  | 88, 3 => some 100
  | 88, 4 => some 111
  | 88, 5 => some 122
  | 123, 0 => some 39
  | 123, 2 => some 124
  | 123, 3 => some 135
  | 123, 4 => some 146
  | 123, 5 => some 157
  | 158, 0 => some 39
  | 158, 1 => some 159
  | 158, 2 => some 160
  | 158, 3 => some 161
  | 158, 4 => some 162
  | 158, 5 => some 169
  | 158, 6 => some 170
  | 158, 7 => some 171
  | 158, 8 => some 172
  | 158, 9 => some 173
  | 158, 10 => some 174
  | 179, 0 => some 180
  | 179, 1 => some 181
  | 179, 2 => some 182
  | 183, 3 => some 184
  | 183, 4 => some 185
  | 183, 5 => some 186
  | 183, 6 => some 187
  | 188, 0 => some 189
  | 188, 1 => some 190
  | 188, 2 => some 191
  | 196, 0 => some 197
  | 196, 1 => some 198
  | 196, 2 => some 199
  | 196, 3 => some 200
  | 196, 5 => some 201
  | 196, 6 => some 202
  | 196, 8 => some 203
  | 196, 9 => some 204
  | 196, 10 => some 205
  | 196, 11 => some 206
  | 196, 13 => some 207
  | 196, 14 => some 208
  | 196, 15 => some 209
  | 196, 16 => some 210
  | 196, 18 => some 211
  | 196, 19 => some 212
  | 196, 20 => some 213
  | 196, 21 => some 214
  | 196, 22 => some 215
  | 196, 23 => some 216
  | 196, 24 => some 217
  | 196, 25 => some 218
  | 196, 27 => some 219
  | 196, 28 => some 220
  | 196, 33 => some 221
  | _, _ => none
abbrev pv_cl : List vw_C := [(RX0, TX0, 13), (RX1, TX1, 7), (RX2, TX2, 6), (RX3, TX3, 2), (RX4, TX4, 3), (RX5, TX5, 3), (RX6, TX6, 7), (RX7, TX7, 3), (RX8, TX8, 20), (RX9, TX9, 34)]
def pv_ty (c i : Nat) : FieldType := match c with
  | 0 => tyX0 i
  | 1 => tyX1 i
  | 2 => tyX2 i
  | 3 => tyX3 i
  | 4 => tyX4 i
  | 5 => tyX5 i
  | 6 => tyX6 i
  | 7 => tyX7 i
  | 8 => tyX8 i
  | _ => tyX9 i
def pv_isR (c i : Nat) : Bool := match pv_ty c i with
  | .int => false
  | .boolean => false
  | _ => true
/-- the first address, the heap ahead of the law, the classes and slots, the classes of int[], long[], int[][], the address of the static row -/
abbrev pv_K : Type := Nat × Heap × va_G × ClassId × ClassId × ClassId × Nat
abbrev pv_H0 (κ : pv_K) : Heap := κ.2.1
abbrev pv_D (κ : pv_K) : va_G := κ.2.2.1
abbrev pv_cI (κ : pv_K) : ClassId := κ.2.2.2.1
abbrev pv_cL (κ : pv_K) : ClassId := κ.2.2.2.2.1
abbrev pv_cR (κ : pv_K) : ClassId := κ.2.2.2.2.2.1
abbrev pv_tA (κ : pv_K) : Nat := κ.2.2.2.2.2.2
def pv_fv (z : Nat) (rf : Nat → Option Nat) (mi : Nat → Int32) (c i : Nat) : Value := if pv_isR c i = true then va_rf ((rf i).map (fun j => z + j)) else .int (mi i)
def pv_fs (z : Nat) (rf : Nat → Option Nat) (mi : Nat → Int32) (c n : Nat) : List Value := (List.range n).map (pv_fv z rf mi c)
def pv_ent (κ : pv_K) (rf : Nat → Nat → Option Nat) (M : pv_M) (k : Nat) : va_E :=
  if (pv_SH k).1 = 0 then .inl (pv_cI κ, (pv_SH k).2, .inl (M.1 k))
  else if (pv_SH k).1 = 1 then .inl (pv_cL κ, (pv_SH k).2, .inr (.inl (M.2 k)))
  else if (pv_SH k).1 = 2 then .inl (pv_cR κ, (pv_SH k).2, .inr (.inr (.inr (.inr (fun j => some (κ.1 + (k + 1 + j)))))))
  else .inr ((pv_SH k).1 - 3, pv_fs κ.1 (rf k) (M.1 k) ((pv_SH k).1 - 3) (pv_SH k).2)
def pv_wl (κ : pv_K) (N : Nat) (rf : Nat → Nat → Option Nat) (M : pv_M) : va_W := (List.range N).map (fun k => (κ.1 + k, pv_ent κ rf M k))
abbrev pv_tys (κ : pv_K) : List (ClassId × FieldType) := [(pv_cI κ, .int), (pv_cL κ, .long), (pv_cR κ, .array .int)]
/-- the world: its cells, how many, and what was there before -/
def pv_Wd (κ : pv_K) (N : Nat) (rf : Nat → Nat → Option Nat) (M : pv_M) (H : Heap) : Prop := va_P (pv_D κ) pv_cl (pv_wl κ N rf M) H ∧ H.size = κ.1 + N ∧ ∀ q, q < κ.1 → H[q]? = (pv_H0 κ)[q]?
def pv_nw : List Cond := [.methodLinkNest RX0 94 yX8_greatest "PoundVotes", .methodLinkNest RX1 68 yX8_greatest "PoundVotes", .methodLinkNest RX4 29 yX8_isWithin "PoundVotes", .methodLinkNest RX6 37 yX8_isWithin "PoundVotes", .methodLinkNest RX6 48 yX8_commonDivisor "PoundVotes", .methodLinkNest RX7 22 yX8_isWithin "PoundVotes", .methodLinkNest RX7 61 yX8_commonDivisor "PoundVotes", .methodLinkNest RX8 48 yX2_init "PoundVotes", .methodLinkNest RX8 77 yX7_init "PoundVotes"]
def pv_dg (j : Nat) : Value := .int (match j with | 0 => 0 | 1 => 1 | _ => 9)
/-- what is known of the tables, in any state of the run -/
def pv_Kn (κ : pv_K) (U : State) : Prop := va_K (pv_D κ) pv_cl (pv_tys κ) U ∧ (∀ w ∈ pv_nw, va_Nw w U) ∧ va_Z "PoundVotes" "DIGEST_YEARS" "[I" (.ref (pv_tA κ)) (fun q => κ.1 ≤ q) U (pv_H0 κ) ∧ va_T .int (pv_tA κ) 3 pv_dg (fun q => κ.1 ≤ q) U (pv_H0 κ) ∧ (pv_H0 κ).size = κ.1
theorem pv_Kn.warm {κ : pv_K} {s U : State} (h : pv_Kn κ s) (hW : s.WarmedH U.vm) : pv_Kn κ U := by
  refine ⟨va_K.moved hW.alike h.1, fun w hw => ?_, va_Z.moved hW.alike h.2.2.1, va_T.moved hW.alike h.2.2.2.1, h.2.2.2.2⟩
  have h2 := h.2.1 w hw
  simp only [pv_nw, List.mem_cons, List.mem_nil_iff, or_false] at hw
  rcases hw with rfl | rfl | rfl | rfl | rfl | rfl | rfl | rfl | rfl <;> exact va_Nw.warmM hW h2
theorem pv_Kn.same {κ : pv_K} {s U : State} (h : pv_Kn κ s) (hv : s.vm = U.vm) : pv_Kn κ U := by
  have ha : s.vm.Alike U.vm := by rw [hv]; exact Vm.Alike.refl U.vm
  refine ⟨va_K.moved ha h.1, fun w hw => ?_, va_Z.moved ha h.2.2.1, va_T.moved ha h.2.2.2.1, h.2.2.2.2⟩
  have h2 := h.2.1 w hw
  simp only [pv_nw, List.mem_cons, List.mem_nil_iff, or_false] at hw
  rcases hw with rfl | rfl | rfl | rfl | rfl | rfl | rfl | rfl | rfl <;> exact va_Nw.same rfl hv h2
theorem pv_wl_get {κ : pv_K} {N : Nat} {rf : Nat → Nat → Option Nat} {M : pv_M} {k : Nat} (h : k < N) : (pv_wl κ N rf M)[k]? = some (κ.1 + k, pv_ent κ rf M k) := by
  unfold pv_wl
  rw [List.getElem?_map, List.getElem?_range h]
  rfl
theorem pv_wl_of {κ : pv_K} {N : Nat} {rf : Nat → Nat → Option Nat} {M : pv_M} {k : Nat} {q : Nat × va_E} (h : (pv_wl κ N rf M)[k]? = some q) : k < N ∧ q = (κ.1 + k, pv_ent κ rf M k) := by
  have hl : k < N := by
    have := (List.getElem?_eq_some_iff.mp h).1
    unfold pv_wl at this
    simpa using this
  exact ⟨hl, (Option.some.inj ((pv_wl_get hl).symm.trans h)).symm⟩
theorem pv_at {κ : pv_K} {N : Nat} {rf : Nat → Nat → Option Nat} {M : pv_M} {H : Heap} {k : Nat} (hW : pv_Wd κ N rf M H) (h : k < N) : va_at (pv_D κ) pv_cl (κ.1 + k, pv_ent κ rf M k) H := hW.1 k _ (pv_wl_get h)
theorem pv_Wd.set {κ : pv_K} {N : Nat} {rf rf' : Nat → Nat → Option Nat} {M M' : pv_M} {H H1 : Heap} {k : Nat} (hW : pv_Wd κ N rf M H) (hz : H1.size = H.size) (oq : ∀ q : Nat, q ≠ κ.1 + k → H1[q]? = H[q]?) (he : va_at (pv_D κ) pv_cl (κ.1 + k, pv_ent κ rf' M' k) H1) (ho : ∀ j, j < N → j ≠ k → pv_ent κ rf' M' j = pv_ent κ rf M j) : pv_Wd κ N rf' M' H1 := by
  refine ⟨fun i q hi => ?_, by rw [hz]; exact hW.2.1, fun q hq => by rw [oq q (by omega)]; exact hW.2.2 q hq⟩
  obtain ⟨hl, rfl⟩ := pv_wl_of hi
  by_cases e : i = k
  · subst e
    exact he
  · rw [ho i hl e]
    exact (pv_at hW hl).kept (oq _ (by show κ.1 + i ≠ κ.1 + k; omega))
theorem pv_ent_I {κ : pv_K} {rf : Nat → Nat → Option Nat} {M : pv_M} {k : Nat} (h : (pv_SH k).1 = 0) : pv_ent κ rf M k = .inl (pv_cI κ, (pv_SH k).2, .inl (M.1 k)) := by
  unfold pv_ent
  rw [if_pos h]
theorem pv_ent_L {κ : pv_K} {rf : Nat → Nat → Option Nat} {M : pv_M} {k : Nat} (h : (pv_SH k).1 = 1) : pv_ent κ rf M k = .inl (pv_cL κ, (pv_SH k).2, .inr (.inl (M.2 k))) := by
  unfold pv_ent
  rw [if_neg (by omega), if_pos h]
theorem pv_ent_R {κ : pv_K} {rf : Nat → Nat → Option Nat} {M : pv_M} {k : Nat} (h : (pv_SH k).1 = 2) : pv_ent κ rf M k = .inl (pv_cR κ, (pv_SH k).2, .inr (.inr (.inr (.inr (fun j => some (κ.1 + (k + 1 + j))))))) := by
  unfold pv_ent
  rw [if_neg (by omega), if_neg (by omega), if_pos h]
theorem pv_ent_O {κ : pv_K} {rf : Nat → Nat → Option Nat} {M : pv_M} {k c n : Nat} (h : pv_SH k = (c + 3, n)) : pv_ent κ rf M k = .inr (c, pv_fs κ.1 (rf k) (M.1 k) c n) := by
  have e : c + 3 - 3 = c := by omega
  unfold pv_ent
  rw [h, if_neg (show ¬ (c + 3, n).1 = 0 by show ¬ c + 3 = 0; omega), if_neg (show ¬ (c + 3, n).1 = 1 by show ¬ c + 3 = 1; omega), if_neg (show ¬ (c + 3, n).1 = 2 by show ¬ c + 3 = 2; omega)]
  show Sum.inr (c + 3 - 3, pv_fs κ.1 (rf k) (M.1 k) (c + 3 - 3) n) = _
  rw [e]
/-- an entry hangs on its own row alone -/
theorem pv_ent_cong {κ : pv_K} {rf rf' : Nat → Nat → Option Nat} {M M' : pv_M} {k : Nat} (h1 : M'.1 k = M.1 k) (h2 : M'.2 k = M.2 k) (h3 : rf' k = rf k) : pv_ent κ rf' M' k = pv_ent κ rf M k := by
  unfold pv_ent
  rw [h1, h2, h3]
theorem pv_fs_get {z c n i : Nat} {rf : Nat → Option Nat} {mi : Nat → Int32} (h : i < n) : (pv_fs z rf mi c n)[i]? = some (pv_fv z rf mi c i) := by
  unfold pv_fs
  rw [List.getElem?_map, List.getElem?_range h]
  rfl
theorem pv_fs_len {z c n : Nat} {rf : Nat → Option Nat} {mi : Nat → Int32} : (pv_fs z rf mi c n).length = n := by simp [pv_fs]
abbrev pv_X : Type := Program × Launch × Env × Room × State × MethodId × Array Value × List Frame × Method × Code
/-- at pc, with these locals, stack and memory, the machine comes to what x says (x none: nothing is said) -/
def pv_R {α : Type} (g : pv_X) (κ : pv_K) (N : Nat) (rf : Nat → Nat → Option Nat) (nL cells slots : Nat) (Q : α → State → Prop) (pc : Nat) (lv : List (Nat × Value)) (st : List Value) (M : pv_M) (x : Option α) : Prop :=
  ∀ v, x = some v → ∀ (H : Heap) (locs : List Loc) (ls : Array Slot), pv_Wd κ N rf M H → (∀ q ∈ locs, κ.1 ≤ q.base) → lv_has ls nL lv →
    W g.1 g.2.1 g.2.2.1 g.2.2.2.1 g.2.2.2.2.1 g.2.2.2.2.2.1 g.2.2.2.2.2.2.1 g.2.2.2.2.2.2.2.1 g.2.2.2.2.2.2.2.2.1 g.2.2.2.2.2.2.2.2.2 H locs cells slots (Q v) (F0 g.2.2.2.2.2.1 pc ls st)
/-- what holds all through a method's run -/
def pv_Ok (g : pv_X) (κ : pv_K) (nL : Nat) (cc : ByteArray) (own : String) (ret : Option FieldType) : Prop :=
  g.1.tables.exec = Jvm.exec ∧ g.2.2.2.2.2.2.2.2.2.code = cc ∧ g.2.2.2.2.2.2.2.2.2.maxLocals = nL ∧ g.2.2.2.2.1.vm.findClass own = some g.2.2.2.2.2.1.cls ∧ (∀ w ∈ UW, w.before g.2.2.2.2.2.2.1 g.2.2.2.2.1 = true) ∧ pv_Kn κ g.2.2.2.2.1 ∧ g.2.2.2.2.2.2.2.2.1.locks = false ∧ g.2.2.2.2.2.2.2.2.1.sig.returnType = ret
def pv_nm {α ρ : Type} (v : α) (f : α → Option ρ) : Option ρ := f v
def pv_jn {K ρ : Type} (k : K) (f : K → Option ρ) : Option ρ := f k
def pv_okb (N t k : Nat) (j : Int32) : Bool := decide (k < N) && (decide ((pv_SH k).1 = t) && (decide (¬ j < 0) && decide (j.toNatClampNeg < (pv_SH k).2)))
theorem pv_okb_of {N t k : Nat} {j : Int32} (h : pv_okb N t k j = true) : k < N ∧ (pv_SH k).1 = t ∧ vp_in j (pv_SH k).2 := by
  simp only [pv_okb, Bool.and_eq_true, decide_eq_true_eq] at h
  exact ⟨h.1, h.2.1, fun q => q.elim h.2.2.1 (fun z => absurd h.2.2.2 (Nat.not_lt.mpr z))⟩
def pv_ldI {ρ : Type} (N k : Nat) (j : Int32) (M : pv_M) (f : Int32 → Option ρ) : Option ρ := if pv_okb N 0 k j = true then f (M.1 k j.toNatClampNeg) else none
def pv_ldL {ρ : Type} (N k : Nat) (j : Int32) (M : pv_M) (f : Int64 → Option ρ) : Option ρ := if pv_okb N 1 k j = true then f (M.2 k j.toNatClampNeg) else none
def pv_ldR {ρ : Type} (N k : Nat) (j : Int32) (f : Nat → Option ρ) : Option ρ := if pv_okb N 2 k j = true then f (k + 1 + j.toNatClampNeg) else none
def pv_stI {ρ : Type} (N k : Nat) (j v : Int32) (M : pv_M) (f : pv_M → Option ρ) : Option ρ := if pv_okb N 0 k j = true then f (pv_u M.1 k j.toNatClampNeg v, M.2) else none
def pv_stL {ρ : Type} (N k : Nat) (j : Int32) (v : Int64) (M : pv_M) (f : pv_M → Option ρ) : Option ρ := if pv_okb N 1 k j = true then f (M.1, pv_u M.2 k j.toNatClampNeg v) else none
def pv_len {ρ : Type} (N k : Nat) (f : Int32 → Option ρ) : Option ρ := if k < N ∧ (pv_SH k).1 < 3 then f (Int32.ofNat (pv_SH k).2) else none
def pv_ck {ρ : Type} (b : Bool) (x : Option ρ) : Option ρ := if b = true then x else none
def pv_cal {α ρ : Type} (x : Option (α × pv_M)) (f : α → pv_M → Option ρ) : Option ρ := match x with
  | some v => f v.1 v.2
  | none => none
def pv_cpy (M : pv_M) (a : Nat) (sp : Int32) (b : Nat) (dp n : Int32) : pv_M := (pv_row M.1 b (va_cpy (M.1 a) (M.1 b) sp.toNatClampNeg dp.toNatClampNeg n.toNatClampNeg), M.2)
def pv_cpyb (N a : Nat) (sp : Int32) (b : Nat) (dp n : Int32) : Bool := decide (a < N) && (decide (b < N) && (decide ((pv_SH a).1 = 0) && (decide ((pv_SH b).1 = 0) && (decide (¬ sp < 0) && (decide (¬ dp < 0) && (decide (¬ n < 0) && (decide (sp.toNatClampNeg + n.toNatClampNeg ≤ (pv_SH a).2) && decide (dp.toNatClampNeg + n.toNatClampNeg ≤ (pv_SH b).2))))))))
section PV
variable {α : Type} {g : pv_X} {κ : pv_K} {N : Nat} {rf : Nat → Nat → Option Nat} {nL cells slots : Nat} {Q : α → State → Prop} {pc : Nat} {lv : List (Nat × Value)} {st : List Value} {M : pv_M} {x : Option α} {cc : ByteArray} {own : String} {ret : Option FieldType}
theorem rw_none : pv_R g κ N rf nL cells slots Q pc lv st M none := fun v h => by cases h
theorem rw_jn {K : Type} {k : K} {f : K → Option α} (P : K → Prop) (h1 : P k) (h2 : ∀ j, P j → pv_R g κ N rf nL cells slots Q pc lv st M (f j)) : pv_R g κ N rf nL cells slots Q pc lv st M (pv_jn k f) := h2 k h1
theorem rw_lv {lv' : List (Nat × Value)} (ks : List Nat) (h : lv_pick lv ks = lv') (k : pv_R g κ N rf nL cells slots Q pc lv' st M x) : pv_R g κ N rf nL cells slots Q pc lv st M x := fun v hv H locs ls hW hL hl => k v hv H locs ls hW hL (lv_sub hl ks h)
theorem rw_nm {v : Int32} {f : Int32 → Option α} (k : ∀ y, pv_R g κ N rf nL cells slots Q pc lv (.int y :: st) M (f y)) : pv_R g κ N rf nL cells slots Q pc lv (.int v :: st) M (pv_nm v f) := k v
theorem rw_nmL {v : Int64} {f : Int64 → Option α} (k : ∀ y, pv_R g κ N rf nL cells slots Q pc lv (.long y :: st) M (f y)) : pv_R g κ N rf nL cells slots Q pc lv (.long v :: st) M (pv_nm v f) := k v
theorem rw_ck {b : Bool} (k : b = true → pv_R g κ N rf nL cells slots Q pc lv st M x) : pv_R g κ N rf nL cells slots Q pc lv st M (pv_ck b x) := by
  intro v hv
  unfold pv_ck at hv
  by_cases h : b = true
  · rw [if_pos h] at hv
    exact k h v hv
  · rw [if_neg h] at hv
    cases hv
theorem rw_iconst {n : Int} {c : Int32} (C : pv_Ok g κ nL cc own ret) (hd : decode cc pc = .ok (.iconst n, 1)) (hc : Int32.ofInt n = c) (k : pv_R g κ N rf nL cells slots Q (pc + 1) lv (.int c :: st) M x) : pv_R g κ N rf nL cells slots Q pc lv (st) M x := fun v hv H locs ls hW hL hl => lv_iconst C.1 C.2.1 hd hc (k v hv H locs ls hW hL hl)
theorem rw_bipush {n : Int} {c : Int32} (C : pv_Ok g κ nL cc own ret) (hd : decode cc pc = .ok (.bipush n, 2)) (hc : (Int8.ofInt n).toInt32 = c) (k : pv_R g κ N rf nL cells slots Q (pc + 2) lv (.int c :: st) M x) : pv_R g κ N rf nL cells slots Q pc lv (st) M x := fun v hv H locs ls hW hL hl => lv_bipush C.1 C.2.1 hd hc (k v hv H locs ls hW hL hl)
theorem rw_sipush {n : Int} {c : Int32} (C : pv_Ok g κ nL cc own ret) (hd : decode cc pc = .ok (.sipush n, 3)) (hc : (Int16.ofInt n).toInt32 = c) (k : pv_R g κ N rf nL cells slots Q (pc + 3) lv (.int c :: st) M x) : pv_R g κ N rf nL cells slots Q pc lv (st) M x := fun v hv H locs ls hW hL hl => lv_sipush C.1 C.2.1 hd hc (k v hv H locs ls hW hL hl)
theorem rw_lconst {n : Fin 2} {c : Int64} (C : pv_Ok g κ nL cc own ret) (hd : decode cc pc = .ok (.lconst n, 1)) (hc : Int64.ofNat (n : Nat) = c) (k : pv_R g κ N rf nL cells slots Q (pc + 1) lv (.long c :: st) M x) : pv_R g κ N rf nL cells slots Q pc lv (st) M x := fun v hv H locs ls hW hL hl => lv_lconst C.1 C.2.1 hd hc (k v hv H locs ls hW hL hl)
theorem rw_ldc {i : Nat} {c : Int32} (C : pv_Ok g κ nL cc own ret) (hd : decode cc pc = .ok (.ldc i, 2)) (hc : Cond.constant own i c ∈ UW) (k : pv_R g κ N rf nL cells slots Q (pc + 2) lv (.int c :: st) M x) : pv_R g κ N rf nL cells slots Q pc lv (st) M x := fun v hv H locs ls hW hL hl => lv_ldc C.1 C.2.1 C.2.2.2.1 (C.2.2.2.2.1 _ hc) hd (k v hv H locs ls hW hL hl)
theorem rw_ldc_w {i : Nat} {c : Int32} (C : pv_Ok g κ nL cc own ret) (hd : decode cc pc = .ok (.ldc_w i, 3)) (hc : Cond.constant own i c ∈ UW) (k : pv_R g κ N rf nL cells slots Q (pc + 3) lv (.int c :: st) M x) : pv_R g κ N rf nL cells slots Q pc lv (st) M x := fun v hv H locs ls hW hL hl => lv_ldcw C.1 C.2.1 C.2.2.2.1 (C.2.2.2.2.1 _ hc) hd (k v hv H locs ls hW hL hl)
theorem rw_ldc2_w {i : Nat} {c : Int64} (C : pv_Ok g κ nL cc own ret) (hd : decode cc pc = .ok (.ldc2_w i, 3)) (hc : Cond.constantLong own i c ∈ UW) (k : pv_R g κ N rf nL cells slots Q (pc + 3) lv (.long c :: st) M x) : pv_R g κ N rf nL cells slots Q pc lv (st) M x := fun v hv H locs ls hW hL hl => lv_ldc2 C.1 C.2.1 C.2.2.2.1 (C.2.2.2.2.1 _ hc) hd (k v hv H locs ls hW hL hl)
theorem rw_iload_n {k0 : Fin 4} {i : Nat} {y : Int32} (C : pv_Ok g κ nL cc own ret) (hd : decode cc pc = .ok (.iload_n k0, 1)) (hi : (k0 : Nat) = i) (j : Nat) (hj : lv[j]? = some (i, .int y)) (k : pv_R g κ N rf nL cells slots Q (pc + 1) lv (.int y :: st) M x) : pv_R g κ N rf nL cells slots Q pc lv (st) M x := fun v hv H locs ls hW hL hl => lv_iload_n C.1 C.2.1 hd hi (lv_at hl j hj) (k v hv H locs ls hW hL hl)
theorem rw_iload {i : Nat} {y : Int32} (C : pv_Ok g κ nL cc own ret) (hd : decode cc pc = .ok (.iload i, 2)) (j : Nat) (hj : lv[j]? = some (i, .int y)) (k : pv_R g κ N rf nL cells slots Q (pc + 2) lv (.int y :: st) M x) : pv_R g κ N rf nL cells slots Q pc lv (st) M x := fun v hv H locs ls hW hL hl => lv_iload C.1 C.2.1 hd (lv_at hl j hj) (k v hv H locs ls hW hL hl)
theorem rw_lload_n {k0 : Fin 4} {i : Nat} {y : Int64} (C : pv_Ok g κ nL cc own ret) (hd : decode cc pc = .ok (.lload_n k0, 1)) (hi : (k0 : Nat) = i) (j : Nat) (hj : lv[j]? = some (i, .long y)) (k : pv_R g κ N rf nL cells slots Q (pc + 1) lv (.long y :: st) M x) : pv_R g κ N rf nL cells slots Q pc lv (st) M x := fun v hv H locs ls hW hL hl => lv_lload_n C.1 C.2.1 hd hi (lv_at hl j hj) (k v hv H locs ls hW hL hl)
theorem rw_lload {i : Nat} {y : Int64} (C : pv_Ok g κ nL cc own ret) (hd : decode cc pc = .ok (.lload i, 2)) (j : Nat) (hj : lv[j]? = some (i, .long y)) (k : pv_R g κ N rf nL cells slots Q (pc + 2) lv (.long y :: st) M x) : pv_R g κ N rf nL cells slots Q pc lv (st) M x := fun v hv H locs ls hW hL hl => lv_lload C.1 C.2.1 hd (lv_at hl j hj) (k v hv H locs ls hW hL hl)
theorem rw_aload_n {k0 : Fin 4} {i : Nat} {y : Nat} (C : pv_Ok g κ nL cc own ret) (hd : decode cc pc = .ok (.aload_n k0, 1)) (hi : (k0 : Nat) = i) (j : Nat) (hj : lv[j]? = some (i, .ref y)) (k : pv_R g κ N rf nL cells slots Q (pc + 1) lv (.ref y :: st) M x) : pv_R g κ N rf nL cells slots Q pc lv (st) M x := fun v hv H locs ls hW hL hl => lv_aload_n C.1 C.2.1 hd hi (lv_at hl j hj) (k v hv H locs ls hW hL hl)
theorem rw_aload {i : Nat} {y : Nat} (C : pv_Ok g κ nL cc own ret) (hd : decode cc pc = .ok (.aload i, 2)) (j : Nat) (hj : lv[j]? = some (i, .ref y)) (k : pv_R g κ N rf nL cells slots Q (pc + 2) lv (.ref y :: st) M x) : pv_R g κ N rf nL cells slots Q pc lv (st) M x := fun v hv H locs ls hW hL hl => lv_aload C.1 C.2.1 hd (lv_at hl j hj) (k v hv H locs ls hW hL hl)
theorem rw_istore_n {k0 : Fin 4} {i : Nat} {y : Int32} {lv' : List (Nat × Value)} (C : pv_Ok g κ nL cc own ret) (hd : decode cc pc = .ok (.istore_n k0, 1)) (hi : (k0 : Nat) = i) (hn : i < nL) (hlv : (i, Value.int y) :: lv.filter (fun q => !(q.1 == i) && !(q.1 + 1 == i && q.2.category == 2)) = lv') (k : pv_R g κ N rf nL cells slots Q (pc + 1) lv' st M x) : pv_R g κ N rf nL cells slots Q pc lv (.int y :: st) M x := fun v hv H locs ls hW hL hl => lv_istore_n C.1 C.2.1 hd hi hl hn hlv (fun ls' hl' => k v hv H locs ls' hW hL hl')
theorem rw_istore {i : Nat} {y : Int32} {lv' : List (Nat × Value)} (C : pv_Ok g κ nL cc own ret) (hd : decode cc pc = .ok (.istore i, 2)) (hn : i < nL) (hlv : (i, Value.int y) :: lv.filter (fun q => !(q.1 == i) && !(q.1 + 1 == i && q.2.category == 2)) = lv') (k : pv_R g κ N rf nL cells slots Q (pc + 2) lv' st M x) : pv_R g κ N rf nL cells slots Q pc lv (.int y :: st) M x := fun v hv H locs ls hW hL hl => lv_istore C.1 C.2.1 hd  hl hn hlv (fun ls' hl' => k v hv H locs ls' hW hL hl')
theorem rw_lstore_n {k0 : Fin 4} {i : Nat} {y : Int64} {lv' : List (Nat × Value)} (C : pv_Ok g κ nL cc own ret) (hd : decode cc pc = .ok (.lstore_n k0, 1)) (hi : (k0 : Nat) = i) (hn : i + 1 < nL) (hlv : (i, Value.long y) :: lv.filter (fun q => !(q.1 == i) && (!(q.1 == i + 1) && !(q.1 + 1 == i && q.2.category == 2))) = lv') (k : pv_R g κ N rf nL cells slots Q (pc + 1) lv' st M x) : pv_R g κ N rf nL cells slots Q pc lv (.long y :: st) M x := fun v hv H locs ls hW hL hl => lv_lstore_n C.1 C.2.1 hd hi hl hn hlv (fun ls' hl' => k v hv H locs ls' hW hL hl')
theorem rw_lstore {i : Nat} {y : Int64} {lv' : List (Nat × Value)} (C : pv_Ok g κ nL cc own ret) (hd : decode cc pc = .ok (.lstore i, 2)) (hn : i + 1 < nL) (hlv : (i, Value.long y) :: lv.filter (fun q => !(q.1 == i) && (!(q.1 == i + 1) && !(q.1 + 1 == i && q.2.category == 2))) = lv') (k : pv_R g κ N rf nL cells slots Q (pc + 2) lv' st M x) : pv_R g κ N rf nL cells slots Q pc lv (.long y :: st) M x := fun v hv H locs ls hW hL hl => lv_lstore C.1 C.2.1 hd  hl hn hlv (fun ls' hl' => k v hv H locs ls' hW hL hl')
theorem rw_astore_n {k0 : Fin 4} {i : Nat} {y : Nat} {lv' : List (Nat × Value)} (C : pv_Ok g κ nL cc own ret) (hd : decode cc pc = .ok (.astore_n k0, 1)) (hi : (k0 : Nat) = i) (hn : i < nL) (hlv : (i, Value.ref y) :: lv.filter (fun q => !(q.1 == i) && !(q.1 + 1 == i && q.2.category == 2)) = lv') (k : pv_R g κ N rf nL cells slots Q (pc + 1) lv' st M x) : pv_R g κ N rf nL cells slots Q pc lv (.ref y :: st) M x := fun v hv H locs ls hW hL hl => lv_astore_n C.1 C.2.1 hd hi hl hn hlv (fun ls' hl' => k v hv H locs ls' hW hL hl')
theorem rw_astore {i : Nat} {y : Nat} {lv' : List (Nat × Value)} (C : pv_Ok g κ nL cc own ret) (hd : decode cc pc = .ok (.astore i, 2)) (hn : i < nL) (hlv : (i, Value.ref y) :: lv.filter (fun q => !(q.1 == i) && !(q.1 + 1 == i && q.2.category == 2)) = lv') (k : pv_R g κ N rf nL cells slots Q (pc + 2) lv' st M x) : pv_R g κ N rf nL cells slots Q pc lv (.ref y :: st) M x := fun v hv H locs ls hW hL hl => lv_astore C.1 C.2.1 hd  hl hn hlv (fun ls' hl' => k v hv H locs ls' hW hL hl')
theorem rw_iinc {i j : Nat} {n : Int} {y c : Int32} {lv' : List (Nat × Value)} (C : pv_Ok g κ nL cc own ret) (hd : decode cc pc = .ok (.iinc i n, 3)) (j : Nat) (hj : lv[j]? = some (i, .int y)) (hc : Int32.ofInt n = c) (hn : i < nL) (hlv : (i, Value.int (y + c)) :: lv.filter (fun q => !(q.1 == i) && !(q.1 + 1 == i && q.2.category == 2)) = lv') (k : pv_R g κ N rf nL cells slots Q (pc + 3) lv' st M x) : pv_R g κ N rf nL cells slots Q pc lv st M x := fun v hv H locs ls hW hL hl => lv_iinc C.1 C.2.1 hd hl hj (by rw [hc]) hn hlv (fun ls' hl' => k v hv H locs ls' hW hL hl')
theorem rw_iadd {a b : Int32} (C : pv_Ok g κ nL cc own ret) (hd : decode cc pc = .ok (.iadd, 1)) (k : pv_R g κ N rf nL cells slots Q (pc + 1) lv (.int (a + b) :: st) M x) : pv_R g κ N rf nL cells slots Q pc lv (.int b :: .int a :: st) M x := fun v hv H locs ls hW hL hl => lv_iadd C.1 C.2.1 hd (k v hv H locs ls hW hL hl)
theorem rw_isub {a b : Int32} (C : pv_Ok g κ nL cc own ret) (hd : decode cc pc = .ok (.isub, 1)) (k : pv_R g κ N rf nL cells slots Q (pc + 1) lv (.int (a - b) :: st) M x) : pv_R g κ N rf nL cells slots Q pc lv (.int b :: .int a :: st) M x := fun v hv H locs ls hW hL hl => lv_isub C.1 C.2.1 hd (k v hv H locs ls hW hL hl)
theorem rw_imul {a b : Int32} (C : pv_Ok g κ nL cc own ret) (hd : decode cc pc = .ok (.imul, 1)) (k : pv_R g κ N rf nL cells slots Q (pc + 1) lv (.int (a * b) :: st) M x) : pv_R g κ N rf nL cells slots Q pc lv (.int b :: .int a :: st) M x := fun v hv H locs ls hW hL hl => lv_imul C.1 C.2.1 hd (k v hv H locs ls hW hL hl)
theorem rw_iand {a b : Int32} (C : pv_Ok g κ nL cc own ret) (hd : decode cc pc = .ok (.iand, 1)) (k : pv_R g κ N rf nL cells slots Q (pc + 1) lv (.int (a &&& b) :: st) M x) : pv_R g κ N rf nL cells slots Q pc lv (.int b :: .int a :: st) M x := fun v hv H locs ls hW hL hl => lv_iand C.1 C.2.1 hd (k v hv H locs ls hW hL hl)
theorem rw_ior {a b : Int32} (C : pv_Ok g κ nL cc own ret) (hd : decode cc pc = .ok (.ior, 1)) (k : pv_R g κ N rf nL cells slots Q (pc + 1) lv (.int (a ||| b) :: st) M x) : pv_R g κ N rf nL cells slots Q pc lv (.int b :: .int a :: st) M x := fun v hv H locs ls hW hL hl => lv_ior C.1 C.2.1 hd (k v hv H locs ls hW hL hl)
theorem rw_ixor {a b : Int32} (C : pv_Ok g κ nL cc own ret) (hd : decode cc pc = .ok (.ixor, 1)) (k : pv_R g κ N rf nL cells slots Q (pc + 1) lv (.int (a ^^^ b) :: st) M x) : pv_R g κ N rf nL cells slots Q pc lv (.int b :: .int a :: st) M x := fun v hv H locs ls hW hL hl => lv_ixor C.1 C.2.1 hd (k v hv H locs ls hW hL hl)
theorem rw_ishl {a b : Int32} (C : pv_Ok g κ nL cc own ret) (hd : decode cc pc = .ok (.ishl, 1)) (k : pv_R g κ N rf nL cells slots Q (pc + 1) lv (.int (a <<< (b &&& 31)) :: st) M x) : pv_R g κ N rf nL cells slots Q pc lv (.int b :: .int a :: st) M x := fun v hv H locs ls hW hL hl => lv_ishl C.1 C.2.1 hd (k v hv H locs ls hW hL hl)
theorem rw_ishr {a b : Int32} (C : pv_Ok g κ nL cc own ret) (hd : decode cc pc = .ok (.ishr, 1)) (k : pv_R g κ N rf nL cells slots Q (pc + 1) lv (.int (a >>> (b &&& 31)) :: st) M x) : pv_R g κ N rf nL cells slots Q pc lv (.int b :: .int a :: st) M x := fun v hv H locs ls hW hL hl => lv_ishr C.1 C.2.1 hd (k v hv H locs ls hW hL hl)
theorem rw_iushr {a b : Int32} (C : pv_Ok g κ nL cc own ret) (hd : decode cc pc = .ok (.iushr, 1)) (k : pv_R g κ N rf nL cells slots Q (pc + 1) lv (.int ((a.toUInt32 >>> (b.toUInt32 &&& Int32.toUInt32 31)).toInt32) :: st) M x) : pv_R g κ N rf nL cells slots Q pc lv (.int b :: .int a :: st) M x := fun v hv H locs ls hW hL hl => lv_iushr C.1 C.2.1 hd rfl (k v hv H locs ls hW hL hl)
theorem rw_ladd {a b : Int64} (C : pv_Ok g κ nL cc own ret) (hd : decode cc pc = .ok (.ladd, 1)) (k : pv_R g κ N rf nL cells slots Q (pc + 1) lv (.long (a + b) :: st) M x) : pv_R g κ N rf nL cells slots Q pc lv (.long b :: .long a :: st) M x := fun v hv H locs ls hW hL hl => lv_ladd C.1 C.2.1 hd (k v hv H locs ls hW hL hl)
theorem rw_lsub {a b : Int64} (C : pv_Ok g κ nL cc own ret) (hd : decode cc pc = .ok (.lsub, 1)) (k : pv_R g κ N rf nL cells slots Q (pc + 1) lv (.long (a - b) :: st) M x) : pv_R g κ N rf nL cells slots Q pc lv (.long b :: .long a :: st) M x := fun v hv H locs ls hW hL hl => lv_lsub C.1 C.2.1 hd (k v hv H locs ls hW hL hl)
theorem rw_lmul {a b : Int64} (C : pv_Ok g κ nL cc own ret) (hd : decode cc pc = .ok (.lmul, 1)) (k : pv_R g κ N rf nL cells slots Q (pc + 1) lv (.long (a * b) :: st) M x) : pv_R g κ N rf nL cells slots Q pc lv (.long b :: .long a :: st) M x := fun v hv H locs ls hW hL hl => lv_lmul C.1 C.2.1 hd (k v hv H locs ls hW hL hl)
theorem rw_lcmp {a b : Int64} (C : pv_Ok g κ nL cc own ret) (hd : decode cc pc = .ok (.lcmp, 1)) (k : pv_R g κ N rf nL cells slots Q (pc + 1) lv (.int (lg_cmp a b) :: st) M x) : pv_R g κ N rf nL cells slots Q pc lv (.long b :: .long a :: st) M x := fun v hv H locs ls hW hL hl => W.lcmp C.1 C.2.1 hd (k v hv H locs ls hW hL hl)
theorem rw_ineg {a : Int32} (C : pv_Ok g κ nL cc own ret) (hd : decode cc pc = .ok (.ineg, 1)) (k : pv_R g κ N rf nL cells slots Q (pc + 1) lv (.int (-a) :: st) M x) : pv_R g κ N rf nL cells slots Q pc lv (.int a :: st) M x := fun v hv H locs ls hW hL hl => lv_ineg C.1 C.2.1 hd (k v hv H locs ls hW hL hl)
theorem rw_i2l {a : Int32} (C : pv_Ok g κ nL cc own ret) (hd : decode cc pc = .ok (.i2l, 1)) (k : pv_R g κ N rf nL cells slots Q (pc + 1) lv (.long a.toInt64 :: st) M x) : pv_R g κ N rf nL cells slots Q pc lv (.int a :: st) M x := fun v hv H locs ls hW hL hl => lv_i2l C.1 C.2.1 hd rfl (k v hv H locs ls hW hL hl)
theorem rw_l2i {a : Int64} (C : pv_Ok g κ nL cc own ret) (hd : decode cc pc = .ok (.l2i, 1)) (k : pv_R g κ N rf nL cells slots Q (pc + 1) lv (.int a.toInt32 :: st) M x) : pv_R g κ N rf nL cells slots Q pc lv (.long a :: st) M x := fun v hv H locs ls hW hL hl => lv_l2i C.1 C.2.1 hd rfl (k v hv H locs ls hW hL hl)
theorem rw_i2b {a : Int32} (C : pv_Ok g κ nL cc own ret) (hd : decode cc pc = .ok (.i2b, 1)) (k : pv_R g κ N rf nL cells slots Q (pc + 1) lv (.int a.toInt8.toInt32 :: st) M x) : pv_R g κ N rf nL cells slots Q pc lv (.int a :: st) M x := fun v hv H locs ls hW hL hl => lv_i2b C.1 C.2.1 hd rfl (k v hv H locs ls hW hL hl)
theorem rw_i2s {a : Int32} (C : pv_Ok g κ nL cc own ret) (hd : decode cc pc = .ok (.i2s, 1)) (k : pv_R g κ N rf nL cells slots Q (pc + 1) lv (.int a.toInt16.toInt32 :: st) M x) : pv_R g κ N rf nL cells slots Q pc lv (.int a :: st) M x := fun v hv H locs ls hW hL hl => lv_i2s C.1 C.2.1 hd rfl (k v hv H locs ls hW hL hl)
theorem rw_dup {a : Value} (C : pv_Ok g κ nL cc own ret) (hd : decode cc pc = .ok (.dup, 1)) (ha : a.category = 1) (k : pv_R g κ N rf nL cells slots Q (pc + 1) lv (a :: a :: st) M x) : pv_R g κ N rf nL cells slots Q pc lv (a :: st) M x := fun v hv H locs ls hW hL hl => lv_dup C.1 C.2.1 hd ha (k v hv H locs ls hW hL hl)
theorem rw_pop {a : Value} (C : pv_Ok g κ nL cc own ret) (hd : decode cc pc = .ok (.pop, 1)) (ha : a.category = 1) (k : pv_R g κ N rf nL cells slots Q (pc + 1) lv (st) M x) : pv_R g κ N rf nL cells slots Q pc lv (a :: st) M x := fun v hv H locs ls hW hL hl => lv_pop C.1 C.2.1 hd ha (k v hv H locs ls hW hL hl)
theorem rw_dup2 {a b : Value} (C : pv_Ok g κ nL cc own ret) (hd : decode cc pc = .ok (.dup2, 1)) (ha : a.category = 1) (hb : b.category = 1) (k : pv_R g κ N rf nL cells slots Q (pc + 1) lv (a :: b :: a :: b :: st) M x) : pv_R g κ N rf nL cells slots Q pc lv (a :: b :: st) M x := fun v hv H locs ls hW hL hl => lv_dup2_11 C.1 C.2.1 hd ha hb (k v hv H locs ls hW hL hl)
theorem rw_idiv {a b : Int32} (C : pv_Ok g κ nL cc own ret) (hd : decode cc pc = .ok (.idiv, 1)) (hb : ¬ b = 0) (k : pv_R g κ N rf nL cells slots Q (pc + 1) lv (.int (a / b) :: st) M x) : pv_R g κ N rf nL cells slots Q pc lv (.int b :: .int a :: st) M x := fun v hv H locs ls hW hL hl => lv_idiv C.1 C.2.1 hd hb (k v hv H locs ls hW hL hl)
theorem rw_irem {a b : Int32} (C : pv_Ok g κ nL cc own ret) (hd : decode cc pc = .ok (.irem, 1)) (hb : ¬ b = 0) (k : pv_R g κ N rf nL cells slots Q (pc + 1) lv (.int (a - a / b * b) :: st) M x) : pv_R g κ N rf nL cells slots Q pc lv (.int b :: .int a :: st) M x := fun v hv H locs ls hW hL hl => lv_irem C.1 C.2.1 hd hb (k v hv H locs ls hW hL hl)
theorem rw_ldiv {a b : Int64} (C : pv_Ok g κ nL cc own ret) (hd : decode cc pc = .ok (.ldiv, 1)) (hb : ¬ b = 0) (k : pv_R g κ N rf nL cells slots Q (pc + 1) lv (.long (a / b) :: st) M x) : pv_R g κ N rf nL cells slots Q pc lv (.long b :: .long a :: st) M x := fun v hv H locs ls hW hL hl => lv_ldiv C.1 C.2.1 hd hb (k v hv H locs ls hW hL hl)
theorem rw_lrem {a b : Int64} (C : pv_Ok g κ nL cc own ret) (hd : decode cc pc = .ok (.lrem, 1)) (hb : ¬ b = 0) (k : pv_R g κ N rf nL cells slots Q (pc + 1) lv (.long (a - a / b * b) :: st) M x) : pv_R g κ N rf nL cells slots Q pc lv (.long b :: .long a :: st) M x := fun v hv H locs ls hW hL hl => lv_lrem C.1 C.2.1 hd hb (k v hv H locs ls hW hL hl)
theorem rw_goto {off : Int} {tgt : Nat} (C : pv_Ok g κ nL cc own ret) (hd : decode cc pc = .ok (.goto off, 3)) (ht : (pc : Int) + off = (tgt : Int)) (k : pv_R g κ N rf nL cells slots Q tgt lv st M x) : pv_R g κ N rf nL cells slots Q pc lv st M x := fun v hv H locs ls hW hL hl => lv_goto C.1 C.2.1 hd ht (k v hv H locs ls hW hL hl)
theorem rw_if_eq {a : Int32} {off : Int} {tgt : Nat} {xt xf : Option α} (C : pv_Ok g κ nL cc own ret) (hd : decode cc pc = .ok (.ifCond .eq off, 3)) (ht : (pc : Int) + off = (tgt : Int)) (k : pv_R g κ N rf nL cells slots Q tgt lv st M xt) (k2 : pv_R g κ N rf nL cells slots Q (pc + 3) lv st M xf) : pv_R g κ N rf nL cells slots Q pc lv (.int a :: st) M (if a = 0 then xt else xf) := by
  intro v hv H locs ls hW hL hl
  by_cases h : a = 0
  · rw [if_pos h] at hv
    exact lv_if_eq C.1 C.2.1 hd ht (fun q => k v hv H locs ls hW hL hl) (fun q => absurd h q)
  · rw [if_neg h] at hv
    exact lv_if_eq C.1 C.2.1 hd ht (fun q => absurd q h) (fun q => k2 v hv H locs ls hW hL hl)
theorem rw_icmp_eq {a b : Int32} {off : Int} {tgt : Nat} {xt xf : Option α} (C : pv_Ok g κ nL cc own ret) (hd : decode cc pc = .ok (.if_icmp .eq off, 3)) (ht : (pc : Int) + off = (tgt : Int)) (k : pv_R g κ N rf nL cells slots Q tgt lv st M xt) (k2 : pv_R g κ N rf nL cells slots Q (pc + 3) lv st M xf) : pv_R g κ N rf nL cells slots Q pc lv (.int b :: .int a :: st) M (if a = b then xt else xf) := by
  intro v hv H locs ls hW hL hl
  by_cases h : a = b
  · rw [if_pos h] at hv
    exact lv_icmp_eq C.1 C.2.1 hd ht (fun q => k v hv H locs ls hW hL hl) (fun q => absurd h q)
  · rw [if_neg h] at hv
    exact lv_icmp_eq C.1 C.2.1 hd ht (fun q => absurd q h) (fun q => k2 v hv H locs ls hW hL hl)
theorem rw_if_ne {a : Int32} {off : Int} {tgt : Nat} {xt xf : Option α} (C : pv_Ok g κ nL cc own ret) (hd : decode cc pc = .ok (.ifCond .ne off, 3)) (ht : (pc : Int) + off = (tgt : Int)) (k : pv_R g κ N rf nL cells slots Q tgt lv st M xt) (k2 : pv_R g κ N rf nL cells slots Q (pc + 3) lv st M xf) : pv_R g κ N rf nL cells slots Q pc lv (.int a :: st) M (if a = 0 then xf else xt) := by
  intro v hv H locs ls hW hL hl
  by_cases h : a = 0
  · rw [if_pos h] at hv
    exact lv_if_ne C.1 C.2.1 hd ht (fun q => absurd h q) (fun q => k2 v hv H locs ls hW hL hl)
  · rw [if_neg h] at hv
    exact lv_if_ne C.1 C.2.1 hd ht (fun q => k v hv H locs ls hW hL hl) (fun q => absurd q h)
theorem rw_icmp_ne {a b : Int32} {off : Int} {tgt : Nat} {xt xf : Option α} (C : pv_Ok g κ nL cc own ret) (hd : decode cc pc = .ok (.if_icmp .ne off, 3)) (ht : (pc : Int) + off = (tgt : Int)) (k : pv_R g κ N rf nL cells slots Q tgt lv st M xt) (k2 : pv_R g κ N rf nL cells slots Q (pc + 3) lv st M xf) : pv_R g κ N rf nL cells slots Q pc lv (.int b :: .int a :: st) M (if a = b then xf else xt) := by
  intro v hv H locs ls hW hL hl
  by_cases h : a = b
  · rw [if_pos h] at hv
    exact lv_icmp_ne C.1 C.2.1 hd ht (fun q => absurd h q) (fun q => k2 v hv H locs ls hW hL hl)
  · rw [if_neg h] at hv
    exact lv_icmp_ne C.1 C.2.1 hd ht (fun q => k v hv H locs ls hW hL hl) (fun q => absurd q h)
theorem rw_if_lt {a : Int32} {off : Int} {tgt : Nat} {xt xf : Option α} (C : pv_Ok g κ nL cc own ret) (hd : decode cc pc = .ok (.ifCond .lt off, 3)) (ht : (pc : Int) + off = (tgt : Int)) (k : pv_R g κ N rf nL cells slots Q tgt lv st M xt) (k2 : pv_R g κ N rf nL cells slots Q (pc + 3) lv st M xf) : pv_R g κ N rf nL cells slots Q pc lv (.int a :: st) M (if a < 0 then xt else xf) := by
  intro v hv H locs ls hW hL hl
  by_cases h : a < 0
  · rw [if_pos h] at hv
    exact lv_if_lt C.1 C.2.1 hd ht (fun q => k v hv H locs ls hW hL hl) (fun q => absurd h q)
  · rw [if_neg h] at hv
    exact lv_if_lt C.1 C.2.1 hd ht (fun q => absurd q h) (fun q => k2 v hv H locs ls hW hL hl)
theorem rw_icmp_lt {a b : Int32} {off : Int} {tgt : Nat} {xt xf : Option α} (C : pv_Ok g κ nL cc own ret) (hd : decode cc pc = .ok (.if_icmp .lt off, 3)) (ht : (pc : Int) + off = (tgt : Int)) (k : pv_R g κ N rf nL cells slots Q tgt lv st M xt) (k2 : pv_R g κ N rf nL cells slots Q (pc + 3) lv st M xf) : pv_R g κ N rf nL cells slots Q pc lv (.int b :: .int a :: st) M (if a < b then xt else xf) := by
  intro v hv H locs ls hW hL hl
  by_cases h : a < b
  · rw [if_pos h] at hv
    exact lv_icmp_lt C.1 C.2.1 hd ht (fun q => k v hv H locs ls hW hL hl) (fun q => absurd h q)
  · rw [if_neg h] at hv
    exact lv_icmp_lt C.1 C.2.1 hd ht (fun q => absurd q h) (fun q => k2 v hv H locs ls hW hL hl)
theorem rw_if_ge {a : Int32} {off : Int} {tgt : Nat} {xt xf : Option α} (C : pv_Ok g κ nL cc own ret) (hd : decode cc pc = .ok (.ifCond .ge off, 3)) (ht : (pc : Int) + off = (tgt : Int)) (k : pv_R g κ N rf nL cells slots Q tgt lv st M xt) (k2 : pv_R g κ N rf nL cells slots Q (pc + 3) lv st M xf) : pv_R g κ N rf nL cells slots Q pc lv (.int a :: st) M (if 0 ≤ a then xt else xf) := by
  intro v hv H locs ls hW hL hl
  by_cases h : 0 ≤ a
  · rw [if_pos h] at hv
    exact lv_if_ge C.1 C.2.1 hd ht (fun q => k v hv H locs ls hW hL hl) (fun q => absurd h q)
  · rw [if_neg h] at hv
    exact lv_if_ge C.1 C.2.1 hd ht (fun q => absurd q h) (fun q => k2 v hv H locs ls hW hL hl)
theorem rw_icmp_ge {a b : Int32} {off : Int} {tgt : Nat} {xt xf : Option α} (C : pv_Ok g κ nL cc own ret) (hd : decode cc pc = .ok (.if_icmp .ge off, 3)) (ht : (pc : Int) + off = (tgt : Int)) (k : pv_R g κ N rf nL cells slots Q tgt lv st M xt) (k2 : pv_R g κ N rf nL cells slots Q (pc + 3) lv st M xf) : pv_R g κ N rf nL cells slots Q pc lv (.int b :: .int a :: st) M (if b ≤ a then xt else xf) := by
  intro v hv H locs ls hW hL hl
  by_cases h : b ≤ a
  · rw [if_pos h] at hv
    exact lv_icmp_ge C.1 C.2.1 hd ht (fun q => k v hv H locs ls hW hL hl) (fun q => absurd h q)
  · rw [if_neg h] at hv
    exact lv_icmp_ge C.1 C.2.1 hd ht (fun q => absurd q h) (fun q => k2 v hv H locs ls hW hL hl)
theorem rw_if_gt {a : Int32} {off : Int} {tgt : Nat} {xt xf : Option α} (C : pv_Ok g κ nL cc own ret) (hd : decode cc pc = .ok (.ifCond .gt off, 3)) (ht : (pc : Int) + off = (tgt : Int)) (k : pv_R g κ N rf nL cells slots Q tgt lv st M xt) (k2 : pv_R g κ N rf nL cells slots Q (pc + 3) lv st M xf) : pv_R g κ N rf nL cells slots Q pc lv (.int a :: st) M (if 0 < a then xt else xf) := by
  intro v hv H locs ls hW hL hl
  by_cases h : 0 < a
  · rw [if_pos h] at hv
    exact lv_if_gt C.1 C.2.1 hd ht (fun q => k v hv H locs ls hW hL hl) (fun q => absurd h q)
  · rw [if_neg h] at hv
    exact lv_if_gt C.1 C.2.1 hd ht (fun q => absurd q h) (fun q => k2 v hv H locs ls hW hL hl)
theorem rw_icmp_gt {a b : Int32} {off : Int} {tgt : Nat} {xt xf : Option α} (C : pv_Ok g κ nL cc own ret) (hd : decode cc pc = .ok (.if_icmp .gt off, 3)) (ht : (pc : Int) + off = (tgt : Int)) (k : pv_R g κ N rf nL cells slots Q tgt lv st M xt) (k2 : pv_R g κ N rf nL cells slots Q (pc + 3) lv st M xf) : pv_R g κ N rf nL cells slots Q pc lv (.int b :: .int a :: st) M (if b < a then xt else xf) := by
  intro v hv H locs ls hW hL hl
  by_cases h : b < a
  · rw [if_pos h] at hv
    exact lv_icmp_gt C.1 C.2.1 hd ht (fun q => k v hv H locs ls hW hL hl) (fun q => absurd h q)
  · rw [if_neg h] at hv
    exact lv_icmp_gt C.1 C.2.1 hd ht (fun q => absurd q h) (fun q => k2 v hv H locs ls hW hL hl)
theorem rw_if_le {a : Int32} {off : Int} {tgt : Nat} {xt xf : Option α} (C : pv_Ok g κ nL cc own ret) (hd : decode cc pc = .ok (.ifCond .le off, 3)) (ht : (pc : Int) + off = (tgt : Int)) (k : pv_R g κ N rf nL cells slots Q tgt lv st M xt) (k2 : pv_R g κ N rf nL cells slots Q (pc + 3) lv st M xf) : pv_R g κ N rf nL cells slots Q pc lv (.int a :: st) M (if a ≤ 0 then xt else xf) := by
  intro v hv H locs ls hW hL hl
  by_cases h : a ≤ 0
  · rw [if_pos h] at hv
    exact lv_if_le C.1 C.2.1 hd ht (fun q => k v hv H locs ls hW hL hl) (fun q => absurd h q)
  · rw [if_neg h] at hv
    exact lv_if_le C.1 C.2.1 hd ht (fun q => absurd q h) (fun q => k2 v hv H locs ls hW hL hl)
theorem rw_icmp_le {a b : Int32} {off : Int} {tgt : Nat} {xt xf : Option α} (C : pv_Ok g κ nL cc own ret) (hd : decode cc pc = .ok (.if_icmp .le off, 3)) (ht : (pc : Int) + off = (tgt : Int)) (k : pv_R g κ N rf nL cells slots Q tgt lv st M xt) (k2 : pv_R g κ N rf nL cells slots Q (pc + 3) lv st M xf) : pv_R g κ N rf nL cells slots Q pc lv (.int b :: .int a :: st) M (if a ≤ b then xt else xf) := by
  intro v hv H locs ls hW hL hl
  by_cases h : a ≤ b
  · rw [if_pos h] at hv
    exact lv_icmp_le C.1 C.2.1 hd ht (fun q => k v hv H locs ls hW hL hl) (fun q => absurd h q)
  · rw [if_neg h] at hv
    exact lv_icmp_le C.1 C.2.1 hd ht (fun q => absurd q h) (fun q => k2 v hv H locs ls hW hL hl)
end PV
end
section
/-- a field that an instruction names: class number, place, and the words of it -/
def pv_fl (own : String) (i c f : Nat) : Prop := ∃ (T : u_T) (n : Nat) (C : String), pv_cl[c]? = some (C, T, n) ∧ f < n ∧ (∀ w ∈ u_ws C T n, w ∈ UW) ∧ (Cond.fieldLink own i C (T f).2.1 (T f).2.2.1) ∈ UW ∧ (∀ a, a < n → ∀ b, b < n → a ≠ b → (T a).2.1 ≠ (T b).2.1) ∧ (∀ k, k < n → parseFieldDescriptor (T k).2.2.1 = some (pv_ty c k)) ∧ (T f).1 = C
def pv_fin (c f : Nat) (b : Bool) : Prop := ∀ (T : u_T) (n : Nat) (C : String), pv_cl[c]? = some (C, T, n) → (T f).2.2.2 = b
section PVF
variable {α : Type} {g : pv_X} {κ : pv_K} {N : Nat} {rf : Nat → Nat → Option Nat} {nL cells slots : Nat} {Q : α → State → Prop} {pc : Nat} {lv : List (Nat × Value)} {st : List Value} {M : pv_M} {x : Option α} {cc : ByteArray} {own : String} {ret : Option FieldType}
theorem rw_getI {i c f n k0 : Nat} {y : Int32 → Option α} (C : pv_Ok g κ nL cc own ret) (hd : decode cc pc = .ok (.getfield i, 3)) (hf : pv_fl own i c f) (hr : pv_isR c f = false) (hk : k0 < N) (hs : pv_SH k0 = (c + 3, n)) (hfn : f < n) (k : ∀ v, pv_R g κ N rf nL cells slots Q (pc + 3) lv (.int v :: st) M (y v)) : pv_R g κ N rf nL cells slots Q pc lv (.ref (κ.1 + k0) :: st) M (pv_nm (M.1 k0 f) y) := by
  intro v hv H locs ls hW hL hl
  obtain ⟨T, n', Cn, h1, h2, h3, h4, h5, h6, h7⟩ := hf
  have hat : (pv_wl κ N rf M)[k0]? = some (κ.1 + k0, .inr (c, pv_fs κ.1 (rf k0) (M.1 k0) c n)) := by rw [pv_wl_get hk, pv_ent_O hs]
  refine va_get C.1 C.2.1 C.2.2.2.2.1 h3 C.2.2.2.1 C.2.2.2.2.2.1.1 hW.1 k0 hat h1 f h2 (C.2.2.2.2.1 _ h4) (fun q hq => by rw [h7] at hq; exact hq) (v := .int (M.1 k0 f)) (by rw [pv_fs_get hfn]; simp [pv_fv, hr]) hd ?_
  exact k _ v hv H locs ls hW hL hl
theorem rw_getR {i c f n k0 k1 : Nat} (C : pv_Ok g κ nL cc own ret) (hd : decode cc pc = .ok (.getfield i, 3)) (hf : pv_fl own i c f) (hr : pv_isR c f = true) (hk : k0 < N) (hs : pv_SH k0 = (c + 3, n)) (hfn : f < n) (hv1 : rf k0 f = some k1) (k : pv_R g κ N rf nL cells slots Q (pc + 3) lv (.ref (κ.1 + k1) :: st) M x) : pv_R g κ N rf nL cells slots Q pc lv (.ref (κ.1 + k0) :: st) M x := by
  intro v hv H locs ls hW hL hl
  obtain ⟨T, n', Cn, h1, h2, h3, h4, h5, h6, h7⟩ := hf
  have hat : (pv_wl κ N rf M)[k0]? = some (κ.1 + k0, .inr (c, pv_fs κ.1 (rf k0) (M.1 k0) c n)) := by rw [pv_wl_get hk, pv_ent_O hs]
  refine va_get C.1 C.2.1 C.2.2.2.2.1 h3 C.2.2.2.1 C.2.2.2.2.2.1.1 hW.1 k0 hat h1 f h2 (C.2.2.2.2.1 _ h4) (fun q hq => by rw [h7] at hq; exact hq) (v := .ref (κ.1 + k1)) (by rw [pv_fs_get hfn]; simp [pv_fv, hr, hv1, va_rf]) hd ?_
  exact k v hv H locs ls hW hL hl
theorem pv_locs {κ : pv_K} {locs : List Loc} {a i : Nat} (hL : ∀ q ∈ locs, κ.1 ≤ q.base) (ha : κ.1 ≤ a) : ∀ q ∈ locs ++ [⟨a, i⟩], κ.1 ≤ q.base := by
  intro q hq
  rcases List.mem_append.mp hq with h | h
  · exact hL q h
  · rw [List.mem_singleton.mp h]
    exact ha
/-- a field of ints (or of truth values) is set -/
theorem rw_put {i c f n k0 : Nat} {y : Int32} {z : pv_M → Option α} (C : pv_Ok g κ nL cc own ret) (hd : decode cc pc = .ok (.putfield i, 3)) (hf : pv_fl own i c f) (hfi : pv_fin c f false) (hr : pv_isR c f = false) (hn : narrow (pv_ty c f) (.int y) = .int y) (hfit : fits (pv_ty c f) (.int y) = true) (hk : k0 < N) (hs : pv_SH k0 = (c + 3, n)) (hfn : f < n) (k : ∀ M', pv_R g κ N rf nL cells slots Q (pc + 3) lv st M' (z M')) : pv_R g κ N rf nL cells slots Q pc lv (.int y :: .ref (κ.1 + k0) :: st) M (pv_nm (pv_u M.1 k0 f y, M.2) z) := by
  intro v hv H locs ls hW hL hl
  obtain ⟨T, n', Cn, h1, h2, h3, h4, h5, h6, h7⟩ := hf
  have hts := C.2.2.2.2.1
  have hK := C.2.2.2.2.2.1.1
  have hap := va_apart (own := own) hts h3 (pv_ty c) h6 h5 hK h1
  have hat : (pv_wl κ N rf M)[k0]? = some (κ.1 + k0, .inr (c, pv_fs κ.1 (rf k0) (M.1 k0) c n)) := by rw [pv_wl_get hk, pv_ent_O hs]
  obtain ⟨r, h1', cell, q1, q2, q3, q4⟩ := hW.1 k0 _ hat
  have hr' : r = (Cn, T, n') := Option.some.inj (h1'.symm.trans h1)
  subst hr'
  obtain ⟨hS, hfc, kC, hkC, hkind⟩ := hK.1 c _ h1
  obtain ⟨cf, kf, fi, fd, hi, hsl⟩ := hS f h2
  have hlay := hts _ (h3 _ (u_in_lay h2))
  unfold u_lay at hlay
  rw [if_neg (by rw [hfi T n' Cn h1]; decide)] at hlay
  have hst := (u_facts hfc hkC (u_lays hts h3 h2) hi).1
  have h6' := u_store hfc hkC hkind hlay hi (h6 f h2) hn hfit
  refine W.putK C.1 C.2.1 (f := fd) ⟨C.2.2.2.1, hts _ h4, ⟨_, _, _, by rw [h7] at hi; exact hi⟩, hst⟩ (by rw [q2]; exact h6') q1 q3 (by rw [hsl]; exact k2_hasslot (q4 f h2)) rfl rfl hd fun H' e1 e2 e3 => ?_
  rw [hsl] at e1 ⊢
  refine k _ v hv H' _ ls (hW.set (k := k0) e2 e3 ?_ (fun j _ hj => pv_ent_cong (pv_u_ne _ _ _ hj) rfl rfl)) (pv_locs hL (Nat.le_add_right _ _)) hl
  rw [pv_ent_O hs]
  refine ⟨_, h1, t_OB.to (V := updV (vp_V (pv_fs κ.1 (rf k0) (M.1 k0) c n)) f (.int y)) ⟨_, e1, q2, q3, t_set q4 hap h2 _⟩ (fun j hj => ?_)⟩
  by_cases e : j = f
  · subst e
    simp only [updV, if_pos, vp_V, List.getD_eq_getElem?_getD]
    rw [pv_fs_get hfn]
    simp [pv_fv, hr, pv_u]
  · simp only [updV, e, if_neg, vp_V, List.getD_eq_getElem?_getD, not_false_eq_true]
    by_cases hjn : j < n
    · rw [pv_fs_get hjn, pv_fs_get hjn]
      simp [pv_fv, pv_u, e]
    · rw [List.getElem?_eq_none (by rw [pv_fs_len]; omega), List.getElem?_eq_none (by rw [pv_fs_len]; omega)]
theorem rw_ldI {j : Int32} {k0 : Nat} {y : Int32 → Option α} (C : pv_Ok g κ nL cc own ret) (hd : decode cc pc = .ok (.iaload, 1)) (k : ∀ v, pv_R g κ N rf nL cells slots Q (pc + 1) lv (.int v :: st) M (y v)) : pv_R g κ N rf nL cells slots Q pc lv (.int j :: .ref (κ.1 + k0) :: st) M (pv_ldI N k0 j M y) := by
  intro v hv H locs ls hW hL hl
  unfold pv_ldI at hv
  split at hv
  · rename_i hb
    obtain ⟨hk, h0, hin⟩ := pv_okb_of hb
    exact va_iald C.1 C.2.1 C.2.2.2.2.2.1.1 hW.1 k0 0 (by rw [pv_wl_get hk, pv_ent_I h0]) rfl hin hd (k _ v hv H locs ls hW hL hl)
  · cases hv
theorem rw_ldL {j : Int32} {k0 : Nat} {y : Int64 → Option α} (C : pv_Ok g κ nL cc own ret) (hd : decode cc pc = .ok (.laload, 1)) (k : ∀ v, pv_R g κ N rf nL cells slots Q (pc + 1) lv (.long v :: st) M (y v)) : pv_R g κ N rf nL cells slots Q pc lv (.int j :: .ref (κ.1 + k0) :: st) M (pv_ldL N k0 j M y) := by
  intro v hv H locs ls hW hL hl
  unfold pv_ldL at hv
  split at hv
  · rename_i hb
    obtain ⟨hk, h0, hin⟩ := pv_okb_of hb
    exact va_lald C.1 C.2.1 C.2.2.2.2.2.1.1 hW.1 k0 1 (by rw [pv_wl_get hk, pv_ent_L h0]) rfl hin hd (k _ v hv H locs ls hW hL hl)
  · cases hv
theorem rw_ldR {j : Int32} {k0 : Nat} {y : Nat → Option α} (C : pv_Ok g κ nL cc own ret) (hd : decode cc pc = .ok (.aaload, 1)) (k : ∀ v, pv_R g κ N rf nL cells slots Q (pc + 1) lv (.ref (κ.1 + v) :: st) M (y v)) : pv_R g κ N rf nL cells slots Q pc lv (.int j :: .ref (κ.1 + k0) :: st) M (pv_ldR N k0 j y) := by
  intro v hv H locs ls hW hL hl
  unfold pv_ldR at hv
  split at hv
  · rename_i hb
    obtain ⟨hk, h0, hin⟩ := pv_okb_of hb
    have hlt : j.toNatClampNeg < (pv_SH k0).2 := Nat.not_le.mp fun q => hin (Or.inr q)
    have ha : va_at (pv_D κ) pv_cl (κ.1 + k0, pv_ent κ rf M k0) H := pv_at hW hk
    rw [pv_ent_R h0] at ha
    have ht : (pv_tys κ)[2]? = some (pv_cR κ, .array .int) := rfl
    exact W.aald (v := .ref (κ.1 + (k0 + 1 + j.toNatClampNeg))) (ty := .array .int) C.1 C.2.1 ha ((C.2.2.2.2.2.1.1.2 2 _ ht).1 (pv_SH k0).2 (fun i => va_rf (some (κ.1 + (k0 + 1 + i))))) rfl (fun q => by cases q) (by show ¬ (j < 0 ∨ (arrV _ _ _).slots.size ≤ _); rw [arrV_size]; exact hin) (by show (arrV _ _ _).slots[_]? = _; rw [arrV_read _ _ hlt]; rfl) rfl rfl hd (k _ v hv H locs ls hW hL hl)
  · cases hv
theorem rw_stI {j y : Int32} {k0 : Nat} {z : pv_M → Option α} (C : pv_Ok g κ nL cc own ret) (hd : decode cc pc = .ok (.iastore, 1)) (k : ∀ M', pv_R g κ N rf nL cells slots Q (pc + 1) lv st M' (z M')) : pv_R g κ N rf nL cells slots Q pc lv (.int y :: .int j :: .ref (κ.1 + k0) :: st) M (pv_stI N k0 j y M z) := by
  intro v hv H locs ls hW hL hl
  unfold pv_stI at hv
  split at hv
  · rename_i hb
    obtain ⟨hk, h0, hin⟩ := pv_okb_of hb
    have ha : va_at (pv_D κ) pv_cl (κ.1 + k0, pv_ent κ rf M k0) H := pv_at hW hk
    rw [pv_ent_I h0] at ha
    have ht : (pv_tys κ)[0]? = some (pv_cI κ, .int) := rfl
    refine W.iast C.1 C.2.1 ha ((C.2.2.2.2.2.1.1.2 0 _ ht).1 (pv_SH k0).2 (fun i => .int (M.1 k0 i))) (fun q => by cases q) (by show ¬ (j < 0 ∨ (arrV _ _ _).slots.size ≤ _); rw [arrV_size]; exact hin) rfl rfl hd fun H1 e1 e2 e3 => ?_
    refine k _ v hv H1 _ ls (hW.set (k := k0) e2 e3 ?_ (fun i _ hi => pv_ent_cong (pv_u_ne _ _ _ hi) rfl rfl)) (pv_locs hL (Nat.le_add_right _ _)) hl
    rw [pv_ent_I h0]
    show H1[κ.1 + k0]? = some (vp_cell _ _)
    rw [e1]
    rw [vp_cell_i, vp_cell_i, arrV_store]
    congr 2
    funext q
    by_cases hq : q = j.toNatClampNeg
    · subst hq
      simp [updV, pv_u]
    · simp [updV, pv_u, hq]
  · cases hv
theorem rw_stL {j : Int32} {y : Int64} {k0 : Nat} {z : pv_M → Option α} (C : pv_Ok g κ nL cc own ret) (hd : decode cc pc = .ok (.lastore, 1)) (k : ∀ M', pv_R g κ N rf nL cells slots Q (pc + 1) lv st M' (z M')) : pv_R g κ N rf nL cells slots Q pc lv (.long y :: .int j :: .ref (κ.1 + k0) :: st) M (pv_stL N k0 j y M z) := by
  intro v hv H locs ls hW hL hl
  unfold pv_stL at hv
  split at hv
  · rename_i hb
    obtain ⟨hk, h0, hin⟩ := pv_okb_of hb
    have ha : va_at (pv_D κ) pv_cl (κ.1 + k0, pv_ent κ rf M k0) H := pv_at hW hk
    rw [pv_ent_L h0] at ha
    have ht : (pv_tys κ)[1]? = some (pv_cL κ, .long) := rfl
    refine W.last C.1 C.2.1 ha ((C.2.2.2.2.2.1.1.2 1 _ ht).1 (pv_SH k0).2 (fun i => .long (M.2 k0 i))) (fun q => by cases q) (by show ¬ (j < 0 ∨ (arrV _ _ _).slots.size ≤ _); rw [arrV_size]; exact hin) rfl rfl hd fun H1 e1 e2 e3 => ?_
    refine k _ v hv H1 _ ls (hW.set (k := k0) e2 e3 ?_ (fun i _ hi => pv_ent_cong rfl (pv_u_ne _ _ _ hi) rfl)) (pv_locs hL (Nat.le_add_right _ _)) hl
    rw [pv_ent_L h0]
    show H1[κ.1 + k0]? = some (vp_cell _ _)
    rw [e1]
    rw [vp_cell_l, vp_cell_l, arrV_store]
    congr 2
    funext q
    by_cases hq : q = j.toNatClampNeg
    · subst hq
      simp [updV, pv_u]
    · simp [updV, pv_u, hq]
  · cases hv
theorem rw_len {k0 : Nat} {y : Int32 → Option α} (C : pv_Ok g κ nL cc own ret) (hd : decode cc pc = .ok (.arraylength, 1)) (k : ∀ v, pv_R g κ N rf nL cells slots Q (pc + 1) lv (.int v :: st) M (y v)) : pv_R g κ N rf nL cells slots Q pc lv (.ref (κ.1 + k0) :: st) M (pv_len N k0 y) := by
  intro v hv H locs ls hW hL hl
  unfold pv_len at hv
  split at hv
  · rename_i hb
    obtain ⟨hk, h0⟩ := hb
    rcases (show (pv_SH k0).1 = 0 ∨ (pv_SH k0).1 = 1 ∨ (pv_SH k0).1 = 2 by omega) with e | e | e
    · exact va_alen C.1 C.2.1 C.2.2.2.2.2.1.1 hW.1 k0 0 (by rw [pv_wl_get hk, pv_ent_I e]) rfl rfl hd (k _ v hv H locs ls hW hL hl)
    · exact va_alen C.1 C.2.1 C.2.2.2.2.2.1.1 hW.1 k0 1 (by rw [pv_wl_get hk, pv_ent_L e]) rfl rfl hd (k _ v hv H locs ls hW hL hl)
    · exact va_alen C.1 C.2.1 C.2.2.2.2.2.1.1 hW.1 k0 2 (by rw [pv_wl_get hk, pv_ent_R e]) rfl rfl hd (k _ v hv H locs ls hW hL hl)
  · cases hv
end PVF
/-- a method's room: d frames below it -/
def pv_rm (d : Nat) : Room := { frames := d, cells := 0, slots := 0, locals := 80 * d }
/-- a method's contract: where x says an answer and a memory, it comes to them -/
def pv_Pre (κ : pv_K) (av : List Value) (M : pv_M) : Array Value → State → Prop := va_Pc av (fun U => pv_Wd κ pv_T pv_RF M U.heap ∧ pv_Kn κ U)
def pv_Post (κ : pv_K) (r : Option Value) (M : pv_M) : Array Value → State → Outcome → State → Prop := fun _ _ oc t => oc = .returned r ∧ pv_Wd κ pv_T pv_RF M t.heap
def pv_Mt {β : Type} (l : Launch) (y : MethodName) (cc : ByteArray) (nL : Nat) (ret : Option FieldType) (d : Nat) (κ : pv_K) (av : List Value) (M : pv_M) (inj : β → Option Value) (x : Option (β × pv_M)) : Prop :=
  ∀ v, x = some v → Met l y (.code y cc nL ret :: UW) (pv_rm d) (pv_Pre κ av M) (pv_Post κ (inj v.1) v.2) 0 0 (fun q => κ.1 ≤ q)
def pv_ji (r : Int32) : Option Value := some (.int r)
def pv_jl (r : Int64) : Option Value := some (.long r)
def pv_ju (_ : Unit) : Option Value := none
def pv_jr (κ : pv_K) (k : Nat) : Option Value := some (.ref (κ.1 + k))
def pv_QF {β : Type} (g : pv_X) (κ : pv_K) (inj : β → Option Value) : β × pv_M → State → Prop := fun v => MQ g.2.2.2.2.2.2.2.1 (pv_Post κ (inj v.1) v.2) g.2.2.2.2.2.2.1 g.2.2.2.2.1 0 0 (fun q => κ.1 ≤ q)
theorem pv_blind {κ : pv_K} {av : List Value} {M : pv_M} : FrameBlind (pv_Pre κ av M) := fun _ _ _ _ h => ⟨h.1, h.2.1, h.2.2.same rfl⟩
theorem pv_enter {β : Type} {l : Launch} {y : MethodName} {cc : ByteArray} {nL : Nat} {ret : Option FieldType} {d : Nat} {κ : pv_K} {av : List Value} {M : pv_M} {inj : β → Option Value} {x : Option (β × pv_M)} (hy : plainName y.cls = true) (ha : (lg_sl av).length ≤ nL)
    (body : ∀ g : pv_X, g.2.1 = l → g.2.2.2.1 = pv_rm d → pv_Ok g κ nL cc y.cls ret → pv_R g κ pv_T pv_RF nL 0 0 (pv_QF g κ inj) 0 (lv_args 0 av) [] M x) : pv_Mt l y cc nL ret d κ av M inj x := by
  intro v hv
  refine Met.ofW (cc := cc) (maxL := nL) (ret := ret) hy rfl ?_
  intro p e s m args below meth c s₁ B hml hP
  obtain ⟨rfl, hW, hKn⟩ := hP
  have hts := atoms_spec (ws := Cond.code y cc nL ret :: UW) B.pre
  have hown : s.vm.findClass y.cls = some m.cls := findClass_of_methodNamed B.named
  rw [lg_entry_eq]
  exact body (p, l, e, pv_rm d, s, m, av.toArray, below, meth, c) rfl rfl ⟨B.exec, B.bytes, hml, hown, fun w hw => hts w (List.mem_cons_of_mem _ hw), hKn, B.notSynchronized, B.returns⟩ v hv s.heap [] _ hW (fun q h => by cases h) (lv_entry av ha)
section PVR
variable {g : pv_X} {κ : pv_K} {nL : Nat} {pc : Nat} {lv : List (Nat × Value)} {M : pv_M} {cc : ByteArray} {own : String}
theorem rw_iret {r : Int32} (C : pv_Ok g κ nL cc own (some .int)) (hd : decode cc pc = .ok (.ireturn, 1)) : pv_R g κ pv_T pv_RF nL 0 0 (pv_QF g κ pv_ji) pc lv [.int r] M (some (r, M)) := by
  intro v hv H locs ls hW hL hl
  cases hv
  have hlk := C.2.2.2.2.2.2.1
  exact W.iret C.1 C.2.1 C.2.2.2.2.2.2.2 (fun t ht hWm => ⟨rfl, by rw [ht]; exact hW⟩) hL hd hlk
theorem rw_zret {r : Int32} (hr : r = 0 ∨ r = 1) (C : pv_Ok g κ nL cc own (some .boolean)) (hd : decode cc pc = .ok (.ireturn, 1)) : pv_R g κ pv_T pv_RF nL 0 0 (pv_QF g κ pv_ji) pc lv [.int r] M (some (r, M)) := by
  intro v hv H locs ls hW hL hl
  cases hv
  have hlk := C.2.2.2.2.2.2.1
  have hn : narrow .boolean (.int r) = .int r := by rcases hr with rfl | rfl <;> decide +kernel
  exact W.zret C.1 C.2.1 C.2.2.2.2.2.2.2 hn (fun t ht hWm => ⟨rfl, by rw [ht]; exact hW⟩) hL hd hlk
theorem rw_zret_ck {r : Int32} (C : pv_Ok g κ nL cc own (some .boolean)) (hd : decode cc pc = .ok (.ireturn, 1)) : pv_R g κ pv_T pv_RF nL 0 0 (pv_QF g κ pv_ji) pc lv [.int r] M (if r = 0 ∨ r = 1 then some (r, M) else none) := by
  intro v hv
  by_cases h : r = 0 ∨ r = 1
  · rw [if_pos h] at hv
    exact rw_zret h C hd v hv
  · rw [if_neg h] at hv
    cases hv
theorem rw_lret {r : Int64} (C : pv_Ok g κ nL cc own (some .long)) (hd : decode cc pc = .ok (.lreturn, 1)) : pv_R g κ pv_T pv_RF nL 0 0 (pv_QF g κ pv_jl) pc lv [.long r] M (some (r, M)) := by
  intro v hv H locs ls hW hL hl
  cases hv
  have hlk := C.2.2.2.2.2.2.1
  exact W.lret C.1 C.2.1 C.2.2.2.2.2.2.2 (fun t ht hWm => ⟨rfl, by rw [ht]; exact hW⟩) hL hd hlk
theorem rw_vret (C : pv_Ok g κ nL cc own none) (hd : decode cc pc = .ok (.return_, 1)) : pv_R g κ pv_T pv_RF nL 0 0 (pv_QF g κ pv_ju) pc lv [] M (some ((), M)) := by
  intro v hv H locs ls hW hL hl
  cases hv
  have hlk := C.2.2.2.2.2.2.1
  exact W.vret C.1 C.2.1 C.2.2.2.2.2.2.2 (fun t ht hWm => ⟨rfl, by rw [ht]; exact hW⟩) hL hd hlk
theorem rw_aret {r : Nat} {rt : FieldType} (hrt : (∃ n, rt = .object n) ∨ ∃ t, rt = .array t) (C : pv_Ok g κ nL cc own (some rt)) (hd : decode cc pc = .ok (.areturn, 1)) : pv_R g κ pv_T pv_RF nL 0 0 (pv_QF g κ (pv_jr κ)) pc lv [.ref (κ.1 + r)] M (some (r, M)) := by
  intro v hv H locs ls hW hL hl
  cases hv
  have hlk := C.2.2.2.2.2.2.1
  exact W.aret C.1 C.2.1 C.2.2.2.2.2.2.2 hrt (Or.inr ⟨_, rfl⟩) (fun t ht hWm => ⟨rfl, by rw [ht]; exact hW⟩) hL hd hlk
end PVR
/-- what a call's words say: a method of an object, a static one, a nest mate's static one -/
def pv_cd (y : MethodName) (n : Nat) : Prop := y.cls ≠ "java/lang/invoke/MethodHandle" ∧ y.cls ≠ "java/lang/invoke/VarHandle" ∧ (parseMethodDescriptor y.desc).map (fun d => d.parameters.length) = some n
def pv_cv (own : String) (i : Nat) (y : MethodName) (cc : ByteArray) (nL : Nat) (ret : Option FieldType) (n : Nat) : Prop := Cond.methodLink own i y ∈ UW ∧ Cond.instanceMethod y ∈ UW ∧ Cond.selects y.cls y y ∈ UW ∧ Cond.initialized y.cls ∈ UW ∧ Cond.code y cc nL ret ∈ UW ∧ pv_cd y n
def pv_cs (own : String) (i : Nat) (y : MethodName) (cc : ByteArray) (nL : Nat) (ret : Option FieldType) (n : Nat) : Prop := Cond.methodLink own i y ∈ UW ∧ Cond.static y ∈ UW ∧ Cond.initialized y.cls ∈ UW ∧ Cond.code y cc nL ret ∈ UW ∧ pv_cd y n
def pv_cn (own : String) (i : Nat) (y : MethodName) (cc : ByteArray) (nL : Nat) (ret : Option FieldType) (n : Nat) (host : String) : Prop := Cond.methodLinkNest own i y host ∈ pv_nw ∧ Cond.static y ∈ UW ∧ Cond.initialized y.cls ∈ UW ∧ Cond.code y cc nL ret ∈ UW ∧ pv_cd y n
theorem pv_goodw {w : Cond} (h : w ∈ UW) : w ∈ UW ∧ ((w.onTables && w.keeps) = true ∨ ∃ ty, w = .arrayClass ty) := ⟨h, good_of_word (List.all_eq_true.mp UW_good w h)⟩
theorem pv_good {ws : List Cond} (h : ∀ w ∈ ws, w ∈ UW) : GoodIn UW ws := fun w hw => pv_goodw (h w hw)
theorem pv_codeUW {w : Cond} (h : w ∈ UW) : ∀ v ∈ w :: UW, v ∈ UW := fun v hv => (List.mem_cons.mp hv).elim (fun e => by rw [e]; exact h) id
section PVC
variable {α β : Type} {g : pv_X} {κ : pv_K} {nL : Nat} {Q : α → State → Prop} {pc : Nat} {lv : List (Nat × Value)} {st : List Value} {M : pv_M} {cc : ByteArray} {own : String} {ret : Option FieldType}
/-- behind a run of a call whose end is pv_Post -/
theorem pv_after {z : β → pv_M → Option α} {v : α} {inj : β → Option Value} {q : β × pv_M} {st0 : List Value} {a : Array Value} {H : Heap} {locs : List Loc} {ls : Array Slot} (hL : ∀ q ∈ locs, κ.1 ≤ q.base) (hl : lv_has ls nL lv)
    (hr : va_Run g.1 g.2.1 g.2.2.1 g.2.2.2.1 g.2.2.2.2.1 g.2.2.2.2.2.1 g.2.2.2.2.2.2.1 g.2.2.2.2.2.2.2.1 g.2.2.2.2.2.2.2.2.1 g.2.2.2.2.2.2.2.2.2 H locs 0 0 0 0 (F0 g.2.2.2.2.2.1 pc ls st0) st (pv_Post κ (inj q.1) q.2 a) (fun q => κ.1 ≤ q))
    (hv : z q.1 q.2 = some v) (k : ∀ r M', pv_R g κ pv_T pv_RF nL 0 0 Q (pc + 3) lv ((inj r).toList ++ st) M' (z r M')) :
    W g.1 g.2.1 g.2.2.1 g.2.2.2.1 g.2.2.2.2.1 g.2.2.2.2.2.1 g.2.2.2.2.2.2.1 g.2.2.2.2.2.2.2.1 g.2.2.2.2.2.2.2.2.1 g.2.2.2.2.2.2.2.2.2 H locs 0 0 (Q v) (F0 g.2.2.2.2.2.1 pc ls st0) := by
  intro T hT X
  obtain ⟨v', st₀, t, T', L, h0, X', hL', e1, e2, ⟨ho, hWd⟩, stp⟩ := hr T hT X
  cases ho
  obtain ⟨t2, a1, b1⟩ := k q.1 q.2 v hv T'.heap (locs ++ L) ls (by rw [e1]; exact hWd) (fun y hy => (List.mem_append.mp hy).elim (hL y) (hL' y)) hl T' rfl X'
  exact ⟨t2, stp t2 a1, b1⟩
theorem pv_preU {av : List Value} {H : Heap} (C : pv_Ok g κ nL cc own ret) (hW : pv_Wd κ pv_T pv_RF M H) : ∀ U : State, U.heap = H → g.2.2.2.2.1.WarmedH U.vm → pv_Pre κ av M av.toArray U := fun U hU hWm => ⟨rfl, by rw [hU]; exact hW, C.2.2.2.2.2.1.warm hWm⟩
theorem pv_recv {k0 c n : Nat} {T : u_T} {Cn : String} {H : Heap} (C : pv_Ok g κ nL cc own ret) (hW : pv_Wd κ pv_T pv_RF M H) (hk : k0 < pv_T) (hs : pv_SH k0 = (c + 3, n)) (hc : pv_cl[c]? = some (Cn, T, n)) : ∃ cellB : Cell, H[κ.1 + k0]? = some cellB ∧ cellB.vm.isStatics = false ∧ g.2.2.2.2.1.vm.findClass Cn = some cellB.cls :=
  va_recv C.2.2.2.2.2.1.1 hW.1 (ci := c) (q0 := k0) hc (by rw [pv_wl_get hk, pv_ent_O hs])
theorem rw_callV {i : Nat} {y : MethodName} {c2 : ByteArray} {n2 : Nat} {r2 : Option FieldType} {n d d2 : Nat} {k0 c nf : Nat} {T : u_T} {As : List Value} {inj : β → Option Value} {x : Option (β × pv_M)} {z : β → pv_M → Option α} (C : pv_Ok g κ nL cc own ret) (hR : g.2.2.2.1 = pv_rm d) (hd : decode cc pc = .ok (.invokevirtual i, 3)) (hw : pv_cv own i y c2 n2 r2 n) (hM : pv_Mt g.2.1 y c2 n2 r2 d2 κ (.ref (κ.1 + k0) :: As) M inj x) (hdd : d2 + 1 ≤ d) (hn2 : n2 ≤ 50) (hk : k0 < pv_T) (hs : pv_SH k0 = (c + 3, nf)) (hc : pv_cl[c]? = some (y.cls, T, nf)) (hA : As.length = n) (hst : ((st.map fun v => v.category).sum ≤ 8)) {st0 : List Value} (h0 : st0 = As.reverse ++ .ref (κ.1 + k0) :: st)
    (k : ∀ r M', pv_R g κ pv_T pv_RF nL 0 0 Q (pc + 3) lv ((inj r).toList ++ st) M' (z r M')) : pv_R g κ pv_T pv_RF nL 0 0 Q pc lv st0 M (pv_cal x z) := by
  intro v hv H locs ls hW hL hl
  subst h0
  cases x with
  | none => cases hv
  | some q =>
    obtain ⟨w1, w2, w3, w4, w5, w6⟩ := hw
    have hg : GoodIn UW (wsV own i y.cls y (.code y c2 n2 r2 :: UW)) := pv_good (fun w h => by
      rcases List.mem_append.mp h with h | h
      · simp only [List.mem_cons, List.mem_nil_iff, or_false] at h
        rcases h with rfl | rfl | rfl | rfl
        · exact w1
        · exact w2
        · exact w3
        · exact w4
      · exact pv_codeUW w5 w h)
    refine pv_after (inj := inj) (q := q) hL hl (va_runV (As := As) (rest := st) ⟨C.1, C.2.1, C.2.2.1, C.2.2.2.1, C.2.2.2.2.1⟩ (hM q rfl) (cwV n C.2.2.2.2.1 hg rfl rfl rfl ⟨rfl, w6⟩ ?_) ⟨pv_blind, pv_recv C hW hk hs hc, pv_preU C hW⟩ rfl hA hl.1 rfl (lv_room hst) hd ?_) hv k
    · rw [hR]
      exact ⟨hdd, by show 8 + (n2 + 11) + 80 * d2 ≤ 80 * d; omega⟩
    · exact ⟨Nat.zero_le _, Nat.zero_le _⟩
theorem rw_callS {i : Nat} {y : MethodName} {c2 : ByteArray} {n2 : Nat} {r2 : Option FieldType} {n d d2 : Nat} {As : List Value} {inj : β → Option Value} {x : Option (β × pv_M)} {z : β → pv_M → Option α} (C : pv_Ok g κ nL cc own ret) (hR : g.2.2.2.1 = pv_rm d) (hd : decode cc pc = .ok (.invokestatic i, 3)) (hw : pv_cs own i y c2 n2 r2 n) (hM : pv_Mt g.2.1 y c2 n2 r2 d2 κ As M inj x) (hdd : d2 + 1 ≤ d) (hn2 : n2 ≤ 50) (hA : As.length = n) (hst : ((st.map fun v => v.category).sum ≤ 8)) {st0 : List Value} (h0 : st0 = As.reverse ++ st)
    (k : ∀ r M', pv_R g κ pv_T pv_RF nL 0 0 Q (pc + 3) lv ((inj r).toList ++ st) M' (z r M')) : pv_R g κ pv_T pv_RF nL 0 0 Q pc lv st0 M (pv_cal x z) := by
  intro v hv H locs ls hW hL hl
  subst h0
  cases x with
  | none => cases hv
  | some q =>
    obtain ⟨w1, w2, w3, w4, w5⟩ := hw
    have hg : GoodIn UW (va_wsS own i y (.code y c2 n2 r2 :: UW)) := pv_good (fun w h => by
      rcases List.mem_append.mp h with h | h
      · simp only [List.mem_cons, List.mem_nil_iff, or_false] at h
        rcases h with rfl | rfl | rfl
        · exact w1
        · exact w2
        · exact w3
      · exact pv_codeUW w4 w h)
    refine pv_after (inj := inj) (q := q) hL hl (va_runS (As := As) (rest := st) ⟨C.1, C.2.1, C.2.2.1, C.2.2.2.1, C.2.2.2.2.1⟩ (hM q rfl) (va_cwS n C.2.2.2.2.1 hg rfl rfl rfl w5 ?_) ⟨pv_blind, pv_preU C hW⟩ rfl hA hl.1 rfl (lv_room hst) hd ?_) hv k
    · rw [hR]
      exact ⟨hdd, by show 8 + (n2 + 11) + 80 * d2 ≤ 80 * d; omega⟩
    · exact ⟨Nat.zero_le _, Nat.zero_le _⟩
theorem rw_callN {i : Nat} {y : MethodName} {c2 : ByteArray} {n2 : Nat} {r2 : Option FieldType} {n d d2 : Nat} {host : String} {As : List Value} {inj : β → Option Value} {x : Option (β × pv_M)} {z : β → pv_M → Option α} (C : pv_Ok g κ nL cc own ret) (hR : g.2.2.2.1 = pv_rm d) (hd : decode cc pc = .ok (.invokestatic i, 3)) (hw : pv_cn own i y c2 n2 r2 n host) (hM : pv_Mt g.2.1 y c2 n2 r2 d2 κ As M inj x) (hdd : d2 + 1 ≤ d) (hn2 : n2 ≤ 50) (hA : As.length = n) (hst : ((st.map fun v => v.category).sum ≤ 8)) {st0 : List Value} (h0 : st0 = As.reverse ++ st)
    (k : ∀ r M', pv_R g κ pv_T pv_RF nL 0 0 Q (pc + 3) lv ((inj r).toList ++ st) M' (z r M')) : pv_R g κ pv_T pv_RF nL 0 0 Q pc lv st0 M (pv_cal x z) := by
  intro v hv H locs ls hW hL hl
  subst h0
  cases x with
  | none => cases hv
  | some q =>
    obtain ⟨w1, w2, w3, w4, w5⟩ := hw
    refine pv_after (inj := inj) (q := q) hL hl (va_runSN (As := As) (rest := st) ⟨C.1, C.2.1, C.2.2.1, C.2.2.2.1, C.2.2.2.2.1⟩ (hM q rfl) ⟨va_cnB n C.2.2.2.2.1 (pv_good (pv_codeUW w4)) rfl rfl rfl (C.2.2.2.2.2.1.2.1 _ w1) (C.2.2.2.2.1 _ w3) w5 ?_, C.2.2.2.2.1 _ w2, trivial⟩ ⟨pv_blind, pv_preU C hW⟩ rfl hA hl.1 rfl (lv_room hst) hd ?_) hv k
    · rw [hR]
      exact ⟨hdd, by show 8 + (n2 + 11) + 80 * d2 ≤ 80 * d; omega⟩
    · exact ⟨Nat.zero_le _, Nat.zero_le _⟩
end PVC
end
section
section PVS
variable {α : Type} {g : pv_X} {κ : pv_K} {N : Nat} {rf : Nat → Nat → Option Nat} {nL cells slots : Nat} {Q : α → State → Prop} {pc : Nat} {lv : List (Nat × Value)} {st : List Value} {M : pv_M} {x : Option α} {cc : ByteArray} {own : String} {ret : Option FieldType}
theorem rw_copy {i d : Nat} {a b : Nat} {sp dp n : Int32} {z : pv_M → Option α} (C : pv_Ok g κ nL cc own ret) (hR : g.2.2.2.1 = pv_rm d) (hd : decode cc pc = .ok (.invokestatic i, 3)) (hw : Cond.methodLink own i arraycopyName ∈ UW ∧ Cond.native arraycopyName ∈ UW ∧ Cond.static arraycopyName ∈ UW ∧ Cond.initialized "java/lang/System" ∈ UW) (hdd : 1 ≤ d) (hst : ((st.map fun v => v.category).sum ≤ 8))
    (k : ∀ M', pv_R g κ N rf nL cells slots Q (pc + 3) lv st M' (z M')) : pv_R g κ N rf nL cells slots Q pc lv (.int n :: .int dp :: .ref (κ.1 + b) :: .int sp :: .ref (κ.1 + a) :: st) M (pv_ck (pv_cpyb N a sp b dp n) (pv_nm (pv_cpy M a sp b dp n) z)) := by
  refine rw_ck (fun hb => ?_)
  intro v hv H locs ls hW hL hl
  simp only [pv_cpyb, Bool.and_eq_true, decide_eq_true_eq] at hb
  obtain ⟨ha, hb, h0, h1, h2, h3, h4, h5, h6⟩ := hb
  have hc0 : H[κ.1 + a]? = some (vp_cell (pv_cI κ) ((pv_SH a).2, .inl (M.1 a))) := by
    have := pv_at hW ha
    rw [pv_ent_I h0] at this
    exact this
  have hc1 : H[κ.1 + b]? = some (vp_cell (pv_cI κ) ((pv_SH b).2, .inl (M.1 b))) := by
    have := pv_at hW hb
    rw [pv_ent_I h1] at this
    exact this
  have nn : ∀ z : Int32, ¬ z < 0 → z.toInt = (z.toNatClampNeg : Int) := by
    intro z hz
    have hz0 : (0 : Int) ≤ z.toInt := by
      have := Int32.not_lt.mp hz
      simpa using Int32.le_iff_toInt_le.mp this
    show z.toInt = ((z.toInt.toNat : Nat) : Int)
    omega
  have ht : (pv_tys κ)[0]? = some (pv_cI κ, .int) := rfl
  have hn20 : nativeFrameWords "java/lang/System" "arraycopy" 5 ≤ 20 := by decide +kernel
  intro T hT X
  obtain ⟨-, k0, hk0, cm0, hkk0⟩ := (C.2.2.2.2.2.1.1.2 0 _ ht).1 (pv_SH a).2 (fun j => .int (M.1 a j))
  obtain ⟨-, k1, hk1, cm1, hkk1⟩ := (C.2.2.2.2.2.1.1.2 0 _ ht).1 (pv_SH b).2 (fun j => .int (M.1 b j))
  obtain ⟨vm', X', step⟩ := X.arraycopy C.1 C.2.2.2.1 (C.2.2.2.2.1 _ hw.1) (C.2.2.2.2.1 _ hw.2.1) (C.2.2.2.2.1 _ hw.2.2.1) (C.2.2.2.2.1 _ hw.2.2.2) (src := κ.1 + a) (dst := κ.1 + b) (cs := vp_cell (pv_cI κ) ((pv_SH a).2, .inl (M.1 a))) (cd := vp_cell (pv_cI κ) ((pv_SH b).2, .inl (M.1 b))) (srcPos := sp) (destPos := dp) (n := n) (by rw [hT]; exact hc0) (by rw [hT]; exact hc1)
    (fun _ h => by cases h) (fun _ h => by cases h) (fun h => by cases h) (fun h => by cases h) hk0 hk1 hkk0 hkk1 (by rfl) h2 h3 h4
    (by rw [nn sp h2, nn n h4]; show ¬ _ > ((arrV (pv_cI κ) (pv_SH a).2 (fun j => .int (M.1 a j))).slots.size : Int); rw [arrV_size]; omega)
    (by rw [nn dp h3, nn n h4]; show ¬ _ > ((arrV (pv_cI κ) (pv_SH b).2 (fun j => .int (M.1 b j))).slots.size : Int); rw [arrV_size]; omega)
    (fun vm₁ _ i hi => by
      have e : (vp_cell (pv_cI κ) ((pv_SH a).2, .inl (M.1 a))).slots.getD (sp.toNatClampNeg + i) .null = .int (M.1 a (sp.toNatClampNeg + i)) := by
        show (arrV (pv_cI κ) (pv_SH a).2 (fun j => .int (M.1 a j))).slots.getD _ _ = _
        rw [Array.getD_eq_getD_getElem?, arrV_read _ _ (by omega)]
        rfl
      refine ⟨?_, ?_⟩
      · rw [e]
        rfl
      · rw [e]
        exact trivial)
    (g := F0 g.2.2.2.2.2.1 pc ls (.int n :: .int dp :: .ref (κ.1 + b) :: .int sp :: .ref (κ.1 + a) :: st)) rfl (by rw [C.2.2.1]; exact hl.1) (rest := st) rfl (by rw [C.2.1]; exact hd) (by rw [hR]; exact hdd) (by rw [hR]; show 2 * 0 + _ + _ ≤ 80 * d; omega)
  have e1 : copied (vp_cell (pv_cI κ) ((pv_SH a).2, .inl (M.1 a))) (vp_cell (pv_cI κ) ((pv_SH b).2, .inl (M.1 b))) sp dp n = vp_cell (pv_cI κ) ((pv_SH b).2, .inl (va_cpy (M.1 a) (M.1 b) sp.toNatClampNeg dp.toNatClampNeg n.toNatClampNeg)) := va_copied (fun z => .int z) (pv_cI κ) (pv_cI κ) (M.1 a) (M.1 b) h5
  rw [e1] at X' step
  have hlt : κ.1 + b < H.size := (Array.getElem?_eq_some_iff.mp hc1).1
  have hheap : ((T.setVm vm').setCell (κ.1 + b) (vp_cell (pv_cI κ) ((pv_SH b).2, .inl (va_cpy (M.1 a) (M.1 b) sp.toNatClampNeg dp.toNatClampNeg n.toNatClampNeg)))).heap = H.setIfInBounds (κ.1 + b) (vp_cell (pv_cI κ) ((pv_SH b).2, .inl (va_cpy (M.1 a) (M.1 b) sp.toNatClampNeg dp.toNatClampNeg n.toNatClampNeg))) := by rw [← hT]; rfl
  have hW' : pv_Wd κ N rf (pv_cpy M a sp b dp n) (H.setIfInBounds (κ.1 + b) (vp_cell (pv_cI κ) ((pv_SH b).2, .inl (va_cpy (M.1 a) (M.1 b) sp.toNatClampNeg dp.toNatClampNeg n.toNatClampNeg)))) := by
    refine hW.set (k := b) (by simp) (fun q hq => by simp [Array.getElem?_setIfInBounds, Ne.symm hq]) ?_ (fun i _ hi => pv_ent_cong (pv_row_ne _ _ hi) rfl rfl)
    rw [pv_ent_I h1]
    show (H.setIfInBounds (κ.1 + b) _)[κ.1 + b]? = some (vp_cell _ _)
    simp [Array.getElem?_setIfInBounds, hlt, pv_cpy, pv_row_eq]
  obtain ⟨t, a1, b1⟩ := k _ v hv _ _ ls hW' (fun q hq => by
      rcases List.mem_append.mp hq with h | h
      · exact hL q h
      · obtain ⟨z, -, hz⟩ := List.mem_map.mp h
        rw [← hz]
        exact Nat.le_add_right _ _) hl _ hheap X'
  exact ⟨t, step t a1, b1⟩
theorem rw_abs {i d : Nat} {a : Int32} (C : pv_Ok g κ nL cc own ret) (hR : g.2.2.2.1 = pv_rm d) (hd : decode cc pc = .ok (.invokestatic i, 3)) (hw : Cond.methodLink own i Lib.Math.abs.name ∈ UW ∧ Cond.static Lib.Math.abs.name ∈ UW ∧ Cond.initialized "java/lang/Math" ∈ UW ∧ Cond.code Lib.Math.abs.name Lib.Math.abs.code 1 (some .int) ∈ UW) (hdd : 1 ≤ d) (hst : ((st.map fun v => v.category).sum ≤ 8)) (hz : cells = 0 ∧ slots = 0) (k : pv_R g κ N rf nL cells slots Q (pc + 3) lv (.int (if 0 ≤ a then a else 0 - a) :: st) M x) : pv_R g κ N rf nL cells slots Q pc lv (.int a :: st) M x :=
  fun v hv H locs ls hW hL hl => va_mabs C.1 C.2.1 (C.2.2.1.trans hl.1.symm) C.2.2.2.1 (C.2.2.2.2.1 _ hw.1) (C.2.2.2.2.1 _ hw.2.1) (C.2.2.2.2.1 _ hw.2.2.1) (C.2.2.2.2.1 _ hw.2.2.2) (by rw [hR]; exact hdd) (by rw [hR]; show _ + 13 ≤ 80 * d; omega) (by rw [hz.1]; exact Nat.zero_le _) (by rw [hz.2]; exact Nat.zero_le _) hd (k v hv H locs ls hW hL hl)
theorem rw_min {i d : Nat} {a b : Int32} (C : pv_Ok g κ nL cc own ret) (hR : g.2.2.2.1 = pv_rm d) (hd : decode cc pc = .ok (.invokestatic i, 3)) (hw : Cond.methodLink own i Lib.Math.min.name ∈ UW ∧ Cond.static Lib.Math.min.name ∈ UW ∧ Cond.initialized "java/lang/Math" ∈ UW ∧ Cond.code Lib.Math.min.name Lib.Math.min.code 2 (some .int) ∈ UW) (hdd : 1 ≤ d) (hst : ((st.map fun v => v.category).sum ≤ 8)) (hz : cells = 0 ∧ slots = 0) (k : pv_R g κ N rf nL cells slots Q (pc + 3) lv (.int (if b < a then b else a) :: st) M x) : pv_R g κ N rf nL cells slots Q pc lv (.int b :: .int a :: st) M x :=
  fun v hv H locs ls hW hL hl => va_mmin C.1 C.2.1 (C.2.2.1.trans hl.1.symm) C.2.2.2.1 (C.2.2.2.2.1 _ hw.1) (C.2.2.2.2.1 _ hw.2.1) (C.2.2.2.2.1 _ hw.2.2.1) (C.2.2.2.2.1 _ hw.2.2.2) (by rw [hR]; exact hdd) (by rw [hR]; show _ + 13 ≤ 80 * d; omega) (by rw [hz.1]; exact Nat.zero_le _) (by rw [hz.2]; exact Nat.zero_le _) hd (k v hv H locs ls hW hL hl)
/-- the static row of the digest's years: it is read only -/
theorem rw_gets {i : Nat} (C : pv_Ok g κ nL cc own ret) (hd : decode cc pc = .ok (.getstatic i, 3)) (hw : Cond.fieldLink own i "PoundVotes" "DIGEST_YEARS" "[I" ∈ UW) (k : pv_R g κ N rf nL cells slots Q (pc + 3) lv (.ref (pv_tA κ) :: st) M x) : pv_R g κ N rf nL cells slots Q pc lv st M x := by
  intro v hv H locs ls hW hL hl
  obtain ⟨cf, kf, fi, f, a, cell, h1, h2, h3, h4, h5, h6, h7, h8⟩ := C.2.2.2.2.2.1.2.2.1
  refine W.gets C.1 C.2.1 C.2.2.2.1 (C.2.2.2.2.1 _ hw) h1 h2 h3 h4 (by rw [hW.2.2 a (Nat.not_le.mp h8)]; exact h5) (fun e => by rw [e] at h6; cases h6) h7 rfl hd ?_
  exact k v hv H locs ls hW hL hl
theorem rw_slen (C : pv_Ok g κ nL cc own ret) (hd : decode cc pc = .ok (.arraylength, 1)) (k : pv_R g κ N rf nL cells slots Q (pc + 1) lv (.int 3 :: st) M x) : pv_R g κ N rf nL cells slots Q pc lv (.ref (pv_tA κ) :: st) M x := by
  intro v hv H locs ls hW hL hl
  obtain ⟨cell, h1, h2, h3, h4, h5, h6, h7⟩ := C.2.2.2.2.2.1.2.2.2.1
  refine W.alen (n := 3) C.1 C.2.1 (by rw [hW.2.2 _ (Nat.not_le.mp h7)]; exact h1) h2 (by rw [h5]; rfl) rfl rfl hd ?_
  exact k v hv H locs ls hW hL hl
def pv_dy (j : Nat) : Int32 := match j with | 0 => 0 | 1 => 1 | _ => 9
theorem rw_sld {j : Int32} {y : Int32 → Option α} (C : pv_Ok g κ nL cc own ret) (hd : decode cc pc = .ok (.iaload, 1)) (k : ∀ v, pv_R g κ N rf nL cells slots Q (pc + 1) lv (.int v :: st) M (y v)) : pv_R g κ N rf nL cells slots Q pc lv (.int j :: .ref (pv_tA κ) :: st) M (pv_ck (decide (¬ j < 0) && decide (j.toNatClampNeg < 3)) (pv_nm (pv_dy j.toNatClampNeg) y)) := by
  refine rw_ck (fun hb => ?_)
  simp only [Bool.and_eq_true, decide_eq_true_eq] at hb
  intro v hv H locs ls hW hL hl
  obtain ⟨cell, h1, h2, h3, h4, h5, h6, h7⟩ := C.2.2.2.2.2.1.2.2.2.1
  have hsz : cell.slots.size.toInt32 = 3 := by rw [h5]; rfl
  refine W.iald (v := .int (pv_dy j.toNatClampNeg)) C.1 C.2.1 (by rw [hW.2.2 _ (Nat.not_le.mp h7)]; exact h1) h2 h3 (fun q => q.elim hb.1 (fun z => absurd hb.2 (by omega))) (by rw [h6 _ hb.2]; rfl) rfl rfl hd ?_
  exact k _ v hv H locs ls hW hL hl
theorem rw_switch {a : Int32} {dflt lo hi : Int} {offs : Array Int} {len : Nat} {z : Nat → Option α} (tg : Nat → Nat) (dt : Nat) (C : pv_Ok g κ nL cc own ret) (hd : decode cc pc = .ok (.tableswitch dflt lo hi offs, len)) (h0 : lo = 0) (hdt : (pc : Int) + dflt = (dt : Int)) (hsz : (offs.size : Int) = hi + 1) (htg : ∀ i, i < offs.size → (offs[i]?).map (fun (o : Int) => (pc : Int) + o) = some (tg i : Int))
    (k : ∀ i, i < offs.size → pv_R g κ N rf nL cells slots Q (tg i) lv st M (z i)) (k2 : pv_R g κ N rf nL cells slots Q dt lv st M (z offs.size)) : pv_R g κ N rf nL cells slots Q pc lv (.int a :: st) M (z (if 0 ≤ a.toInt ∧ a.toInt ≤ hi then a.toInt.toNat else offs.size)) := by
  intro v hv H locs ls hW hL hl
  subst h0
  by_cases h : 0 ≤ a.toInt ∧ a.toInt ≤ hi
  · rw [if_pos h] at hv
    have hi' : a.toInt.toNat < offs.size := by omega
    have ho := htg _ hi'
    rw [Array.getElem?_eq_getElem hi'] at ho
    refine lv_tableIn (off := offs[a.toInt.toNat]) (tgt := tg a.toInt.toNat) C.1 C.2.1 hd (by omega) (by omega) ?_ (Option.some.inj ho) (k _ hi' v hv H locs ls hW hL hl)
    rw [Int.sub_zero, Array.getElem?_eq_getElem hi']
  · rw [if_neg h] at hv
    exact lv_tableOut C.1 C.2.1 hd (by omega) hdt (k2 v hv H locs ls hW hL hl)
end PVS
def pv_lp1 {ρ A1 : Type} (body : (A1 → Option ρ) → A1 → Option ρ) : Nat → A1 → Option ρ
  | 0 => fun _ => none
  | n + 1 => body (pv_lp1 body n)
theorem pv_lp1_ind {ρ A1 : Type} {body : (A1 → Option ρ) → A1 → Option ρ} (P : A1 → Option ρ → Prop) (h0 : ∀ (a1 : A1), P a1 none) (hs : ∀ (rec : A1 → Option ρ), (∀ (a1 : A1), P a1 (rec a1)) → ∀ (a1 : A1), P a1 (body rec a1)) : ∀ (n : Nat) (a1 : A1), P a1 (pv_lp1 body n a1)
  | 0, a1 => h0 a1
  | n + 1, a1 => hs _ (pv_lp1_ind P h0 hs n) a1
theorem pv_lp1_meas {ρ A1 : Type} {body : (A1 → Option ρ) → A1 → Option ρ} (I : A1 → Prop) (μ : A1 → Nat) (P : A1 → Option ρ → Prop) (hs : ∀ (rec : A1 → Option ρ) (a1 : A1), I a1 → (∀ (b1 : A1), I b1 → μ b1 < μ a1 → P b1 (rec b1)) → P a1 (body rec a1)) : ∀ (n : Nat) (a1 : A1), I a1 → μ a1 < n → P a1 (pv_lp1 body n a1)
  | 0, a1, _, h => absurd h (Nat.not_lt_zero _)
  | n + 1, a1, hi, h => hs _ a1 hi (fun b1 hb hm => pv_lp1_meas I μ P hs n b1 hb (Nat.lt_of_lt_of_le hm (Nat.le_of_lt_succ h)))
def pv_lp2 {ρ A1 A2 : Type} (body : (A1 → A2 → Option ρ) → A1 → A2 → Option ρ) : Nat → A1 → A2 → Option ρ
  | 0 => fun _ _ => none
  | n + 1 => body (pv_lp2 body n)
theorem pv_lp2_ind {ρ A1 A2 : Type} {body : (A1 → A2 → Option ρ) → A1 → A2 → Option ρ} (P : A1 → A2 → Option ρ → Prop) (h0 : ∀ (a1 : A1) (a2 : A2), P a1 a2 none) (hs : ∀ (rec : A1 → A2 → Option ρ), (∀ (a1 : A1) (a2 : A2), P a1 a2 (rec a1 a2)) → ∀ (a1 : A1) (a2 : A2), P a1 a2 (body rec a1 a2)) : ∀ (n : Nat) (a1 : A1) (a2 : A2), P a1 a2 (pv_lp2 body n a1 a2)
  | 0, a1, a2 => h0 a1 a2
  | n + 1, a1, a2 => hs _ (pv_lp2_ind P h0 hs n) a1 a2
theorem pv_lp2_meas {ρ A1 A2 : Type} {body : (A1 → A2 → Option ρ) → A1 → A2 → Option ρ} (I : A1 → A2 → Prop) (μ : A1 → A2 → Nat) (P : A1 → A2 → Option ρ → Prop) (hs : ∀ (rec : A1 → A2 → Option ρ) (a1 : A1) (a2 : A2), I a1 a2 → (∀ (b1 : A1) (b2 : A2), I b1 b2 → μ b1 b2 < μ a1 a2 → P b1 b2 (rec b1 b2)) → P a1 a2 (body rec a1 a2)) : ∀ (n : Nat) (a1 : A1) (a2 : A2), I a1 a2 → μ a1 a2 < n → P a1 a2 (pv_lp2 body n a1 a2)
  | 0, a1, a2, _, h => absurd h (Nat.not_lt_zero _)
  | n + 1, a1, a2, hi, h => hs _ a1 a2 hi (fun b1 b2 hb hm => pv_lp2_meas I μ P hs n b1 b2 hb (Nat.lt_of_lt_of_le hm (Nat.le_of_lt_succ h)))
def pv_lp3 {ρ A1 A2 A3 : Type} (body : (A1 → A2 → A3 → Option ρ) → A1 → A2 → A3 → Option ρ) : Nat → A1 → A2 → A3 → Option ρ
  | 0 => fun _ _ _ => none
  | n + 1 => body (pv_lp3 body n)
theorem pv_lp3_ind {ρ A1 A2 A3 : Type} {body : (A1 → A2 → A3 → Option ρ) → A1 → A2 → A3 → Option ρ} (P : A1 → A2 → A3 → Option ρ → Prop) (h0 : ∀ (a1 : A1) (a2 : A2) (a3 : A3), P a1 a2 a3 none) (hs : ∀ (rec : A1 → A2 → A3 → Option ρ), (∀ (a1 : A1) (a2 : A2) (a3 : A3), P a1 a2 a3 (rec a1 a2 a3)) → ∀ (a1 : A1) (a2 : A2) (a3 : A3), P a1 a2 a3 (body rec a1 a2 a3)) : ∀ (n : Nat) (a1 : A1) (a2 : A2) (a3 : A3), P a1 a2 a3 (pv_lp3 body n a1 a2 a3)
  | 0, a1, a2, a3 => h0 a1 a2 a3
  | n + 1, a1, a2, a3 => hs _ (pv_lp3_ind P h0 hs n) a1 a2 a3
theorem pv_lp3_meas {ρ A1 A2 A3 : Type} {body : (A1 → A2 → A3 → Option ρ) → A1 → A2 → A3 → Option ρ} (I : A1 → A2 → A3 → Prop) (μ : A1 → A2 → A3 → Nat) (P : A1 → A2 → A3 → Option ρ → Prop) (hs : ∀ (rec : A1 → A2 → A3 → Option ρ) (a1 : A1) (a2 : A2) (a3 : A3), I a1 a2 a3 → (∀ (b1 : A1) (b2 : A2) (b3 : A3), I b1 b2 b3 → μ b1 b2 b3 < μ a1 a2 a3 → P b1 b2 b3 (rec b1 b2 b3)) → P a1 a2 a3 (body rec a1 a2 a3)) : ∀ (n : Nat) (a1 : A1) (a2 : A2) (a3 : A3), I a1 a2 a3 → μ a1 a2 a3 < n → P a1 a2 a3 (pv_lp3 body n a1 a2 a3)
  | 0, a1, a2, a3, _, h => absurd h (Nat.not_lt_zero _)
  | n + 1, a1, a2, a3, hi, h => hs _ a1 a2 a3 hi (fun b1 b2 b3 hb hm => pv_lp3_meas I μ P hs n b1 b2 b3 hb (Nat.lt_of_lt_of_le hm (Nat.le_of_lt_succ h)))
def pv_lp4 {ρ A1 A2 A3 A4 : Type} (body : (A1 → A2 → A3 → A4 → Option ρ) → A1 → A2 → A3 → A4 → Option ρ) : Nat → A1 → A2 → A3 → A4 → Option ρ
  | 0 => fun _ _ _ _ => none
  | n + 1 => body (pv_lp4 body n)
theorem pv_lp4_ind {ρ A1 A2 A3 A4 : Type} {body : (A1 → A2 → A3 → A4 → Option ρ) → A1 → A2 → A3 → A4 → Option ρ} (P : A1 → A2 → A3 → A4 → Option ρ → Prop) (h0 : ∀ (a1 : A1) (a2 : A2) (a3 : A3) (a4 : A4), P a1 a2 a3 a4 none) (hs : ∀ (rec : A1 → A2 → A3 → A4 → Option ρ), (∀ (a1 : A1) (a2 : A2) (a3 : A3) (a4 : A4), P a1 a2 a3 a4 (rec a1 a2 a3 a4)) → ∀ (a1 : A1) (a2 : A2) (a3 : A3) (a4 : A4), P a1 a2 a3 a4 (body rec a1 a2 a3 a4)) : ∀ (n : Nat) (a1 : A1) (a2 : A2) (a3 : A3) (a4 : A4), P a1 a2 a3 a4 (pv_lp4 body n a1 a2 a3 a4)
  | 0, a1, a2, a3, a4 => h0 a1 a2 a3 a4
  | n + 1, a1, a2, a3, a4 => hs _ (pv_lp4_ind P h0 hs n) a1 a2 a3 a4
theorem pv_lp4_meas {ρ A1 A2 A3 A4 : Type} {body : (A1 → A2 → A3 → A4 → Option ρ) → A1 → A2 → A3 → A4 → Option ρ} (I : A1 → A2 → A3 → A4 → Prop) (μ : A1 → A2 → A3 → A4 → Nat) (P : A1 → A2 → A3 → A4 → Option ρ → Prop) (hs : ∀ (rec : A1 → A2 → A3 → A4 → Option ρ) (a1 : A1) (a2 : A2) (a3 : A3) (a4 : A4), I a1 a2 a3 a4 → (∀ (b1 : A1) (b2 : A2) (b3 : A3) (b4 : A4), I b1 b2 b3 b4 → μ b1 b2 b3 b4 < μ a1 a2 a3 a4 → P b1 b2 b3 b4 (rec b1 b2 b3 b4)) → P a1 a2 a3 a4 (body rec a1 a2 a3 a4)) : ∀ (n : Nat) (a1 : A1) (a2 : A2) (a3 : A3) (a4 : A4), I a1 a2 a3 a4 → μ a1 a2 a3 a4 < n → P a1 a2 a3 a4 (pv_lp4 body n a1 a2 a3 a4)
  | 0, a1, a2, a3, a4, _, h => absurd h (Nat.not_lt_zero _)
  | n + 1, a1, a2, a3, a4, hi, h => hs _ a1 a2 a3 a4 hi (fun b1 b2 b3 b4 hb hm => pv_lp4_meas I μ P hs n b1 b2 b3 b4 hb (Nat.lt_of_lt_of_le hm (Nat.le_of_lt_succ h)))
def pv_lp5 {ρ A1 A2 A3 A4 A5 : Type} (body : (A1 → A2 → A3 → A4 → A5 → Option ρ) → A1 → A2 → A3 → A4 → A5 → Option ρ) : Nat → A1 → A2 → A3 → A4 → A5 → Option ρ
  | 0 => fun _ _ _ _ _ => none
  | n + 1 => body (pv_lp5 body n)
theorem pv_lp5_ind {ρ A1 A2 A3 A4 A5 : Type} {body : (A1 → A2 → A3 → A4 → A5 → Option ρ) → A1 → A2 → A3 → A4 → A5 → Option ρ} (P : A1 → A2 → A3 → A4 → A5 → Option ρ → Prop) (h0 : ∀ (a1 : A1) (a2 : A2) (a3 : A3) (a4 : A4) (a5 : A5), P a1 a2 a3 a4 a5 none) (hs : ∀ (rec : A1 → A2 → A3 → A4 → A5 → Option ρ), (∀ (a1 : A1) (a2 : A2) (a3 : A3) (a4 : A4) (a5 : A5), P a1 a2 a3 a4 a5 (rec a1 a2 a3 a4 a5)) → ∀ (a1 : A1) (a2 : A2) (a3 : A3) (a4 : A4) (a5 : A5), P a1 a2 a3 a4 a5 (body rec a1 a2 a3 a4 a5)) : ∀ (n : Nat) (a1 : A1) (a2 : A2) (a3 : A3) (a4 : A4) (a5 : A5), P a1 a2 a3 a4 a5 (pv_lp5 body n a1 a2 a3 a4 a5)
  | 0, a1, a2, a3, a4, a5 => h0 a1 a2 a3 a4 a5
  | n + 1, a1, a2, a3, a4, a5 => hs _ (pv_lp5_ind P h0 hs n) a1 a2 a3 a4 a5
theorem pv_lp5_meas {ρ A1 A2 A3 A4 A5 : Type} {body : (A1 → A2 → A3 → A4 → A5 → Option ρ) → A1 → A2 → A3 → A4 → A5 → Option ρ} (I : A1 → A2 → A3 → A4 → A5 → Prop) (μ : A1 → A2 → A3 → A4 → A5 → Nat) (P : A1 → A2 → A3 → A4 → A5 → Option ρ → Prop) (hs : ∀ (rec : A1 → A2 → A3 → A4 → A5 → Option ρ) (a1 : A1) (a2 : A2) (a3 : A3) (a4 : A4) (a5 : A5), I a1 a2 a3 a4 a5 → (∀ (b1 : A1) (b2 : A2) (b3 : A3) (b4 : A4) (b5 : A5), I b1 b2 b3 b4 b5 → μ b1 b2 b3 b4 b5 < μ a1 a2 a3 a4 a5 → P b1 b2 b3 b4 b5 (rec b1 b2 b3 b4 b5)) → P a1 a2 a3 a4 a5 (body rec a1 a2 a3 a4 a5)) : ∀ (n : Nat) (a1 : A1) (a2 : A2) (a3 : A3) (a4 : A4) (a5 : A5), I a1 a2 a3 a4 a5 → μ a1 a2 a3 a4 a5 < n → P a1 a2 a3 a4 a5 (pv_lp5 body n a1 a2 a3 a4 a5)
  | 0, a1, a2, a3, a4, a5, _, h => absurd h (Nat.not_lt_zero _)
  | n + 1, a1, a2, a3, a4, a5, hi, h => hs _ a1 a2 a3 a4 a5 hi (fun b1 b2 b3 b4 b5 hb hm => pv_lp5_meas I μ P hs n b1 b2 b3 b4 b5 hb (Nat.lt_of_lt_of_le hm (Nat.le_of_lt_succ h)))
def pv_lp6 {ρ A1 A2 A3 A4 A5 A6 : Type} (body : (A1 → A2 → A3 → A4 → A5 → A6 → Option ρ) → A1 → A2 → A3 → A4 → A5 → A6 → Option ρ) : Nat → A1 → A2 → A3 → A4 → A5 → A6 → Option ρ
  | 0 => fun _ _ _ _ _ _ => none
  | n + 1 => body (pv_lp6 body n)
theorem pv_lp6_ind {ρ A1 A2 A3 A4 A5 A6 : Type} {body : (A1 → A2 → A3 → A4 → A5 → A6 → Option ρ) → A1 → A2 → A3 → A4 → A5 → A6 → Option ρ} (P : A1 → A2 → A3 → A4 → A5 → A6 → Option ρ → Prop) (h0 : ∀ (a1 : A1) (a2 : A2) (a3 : A3) (a4 : A4) (a5 : A5) (a6 : A6), P a1 a2 a3 a4 a5 a6 none) (hs : ∀ (rec : A1 → A2 → A3 → A4 → A5 → A6 → Option ρ), (∀ (a1 : A1) (a2 : A2) (a3 : A3) (a4 : A4) (a5 : A5) (a6 : A6), P a1 a2 a3 a4 a5 a6 (rec a1 a2 a3 a4 a5 a6)) → ∀ (a1 : A1) (a2 : A2) (a3 : A3) (a4 : A4) (a5 : A5) (a6 : A6), P a1 a2 a3 a4 a5 a6 (body rec a1 a2 a3 a4 a5 a6)) : ∀ (n : Nat) (a1 : A1) (a2 : A2) (a3 : A3) (a4 : A4) (a5 : A5) (a6 : A6), P a1 a2 a3 a4 a5 a6 (pv_lp6 body n a1 a2 a3 a4 a5 a6)
  | 0, a1, a2, a3, a4, a5, a6 => h0 a1 a2 a3 a4 a5 a6
  | n + 1, a1, a2, a3, a4, a5, a6 => hs _ (pv_lp6_ind P h0 hs n) a1 a2 a3 a4 a5 a6
theorem pv_lp6_meas {ρ A1 A2 A3 A4 A5 A6 : Type} {body : (A1 → A2 → A3 → A4 → A5 → A6 → Option ρ) → A1 → A2 → A3 → A4 → A5 → A6 → Option ρ} (I : A1 → A2 → A3 → A4 → A5 → A6 → Prop) (μ : A1 → A2 → A3 → A4 → A5 → A6 → Nat) (P : A1 → A2 → A3 → A4 → A5 → A6 → Option ρ → Prop) (hs : ∀ (rec : A1 → A2 → A3 → A4 → A5 → A6 → Option ρ) (a1 : A1) (a2 : A2) (a3 : A3) (a4 : A4) (a5 : A5) (a6 : A6), I a1 a2 a3 a4 a5 a6 → (∀ (b1 : A1) (b2 : A2) (b3 : A3) (b4 : A4) (b5 : A5) (b6 : A6), I b1 b2 b3 b4 b5 b6 → μ b1 b2 b3 b4 b5 b6 < μ a1 a2 a3 a4 a5 a6 → P b1 b2 b3 b4 b5 b6 (rec b1 b2 b3 b4 b5 b6)) → P a1 a2 a3 a4 a5 a6 (body rec a1 a2 a3 a4 a5 a6)) : ∀ (n : Nat) (a1 : A1) (a2 : A2) (a3 : A3) (a4 : A4) (a5 : A5) (a6 : A6), I a1 a2 a3 a4 a5 a6 → μ a1 a2 a3 a4 a5 a6 < n → P a1 a2 a3 a4 a5 a6 (pv_lp6 body n a1 a2 a3 a4 a5 a6)
  | 0, a1, a2, a3, a4, a5, a6, _, h => absurd h (Nat.not_lt_zero _)
  | n + 1, a1, a2, a3, a4, a5, a6, hi, h => hs _ a1 a2 a3 a4 a5 a6 hi (fun b1 b2 b3 b4 b5 b6 hb hm => pv_lp6_meas I μ P hs n b1 b2 b3 b4 b5 b6 hb (Nat.lt_of_lt_of_le hm (Nat.le_of_lt_succ h)))
def pv_lp7 {ρ A1 A2 A3 A4 A5 A6 A7 : Type} (body : (A1 → A2 → A3 → A4 → A5 → A6 → A7 → Option ρ) → A1 → A2 → A3 → A4 → A5 → A6 → A7 → Option ρ) : Nat → A1 → A2 → A3 → A4 → A5 → A6 → A7 → Option ρ
  | 0 => fun _ _ _ _ _ _ _ => none
  | n + 1 => body (pv_lp7 body n)
theorem pv_lp7_ind {ρ A1 A2 A3 A4 A5 A6 A7 : Type} {body : (A1 → A2 → A3 → A4 → A5 → A6 → A7 → Option ρ) → A1 → A2 → A3 → A4 → A5 → A6 → A7 → Option ρ} (P : A1 → A2 → A3 → A4 → A5 → A6 → A7 → Option ρ → Prop) (h0 : ∀ (a1 : A1) (a2 : A2) (a3 : A3) (a4 : A4) (a5 : A5) (a6 : A6) (a7 : A7), P a1 a2 a3 a4 a5 a6 a7 none) (hs : ∀ (rec : A1 → A2 → A3 → A4 → A5 → A6 → A7 → Option ρ), (∀ (a1 : A1) (a2 : A2) (a3 : A3) (a4 : A4) (a5 : A5) (a6 : A6) (a7 : A7), P a1 a2 a3 a4 a5 a6 a7 (rec a1 a2 a3 a4 a5 a6 a7)) → ∀ (a1 : A1) (a2 : A2) (a3 : A3) (a4 : A4) (a5 : A5) (a6 : A6) (a7 : A7), P a1 a2 a3 a4 a5 a6 a7 (body rec a1 a2 a3 a4 a5 a6 a7)) : ∀ (n : Nat) (a1 : A1) (a2 : A2) (a3 : A3) (a4 : A4) (a5 : A5) (a6 : A6) (a7 : A7), P a1 a2 a3 a4 a5 a6 a7 (pv_lp7 body n a1 a2 a3 a4 a5 a6 a7)
  | 0, a1, a2, a3, a4, a5, a6, a7 => h0 a1 a2 a3 a4 a5 a6 a7
  | n + 1, a1, a2, a3, a4, a5, a6, a7 => hs _ (pv_lp7_ind P h0 hs n) a1 a2 a3 a4 a5 a6 a7
theorem pv_lp7_meas {ρ A1 A2 A3 A4 A5 A6 A7 : Type} {body : (A1 → A2 → A3 → A4 → A5 → A6 → A7 → Option ρ) → A1 → A2 → A3 → A4 → A5 → A6 → A7 → Option ρ} (I : A1 → A2 → A3 → A4 → A5 → A6 → A7 → Prop) (μ : A1 → A2 → A3 → A4 → A5 → A6 → A7 → Nat) (P : A1 → A2 → A3 → A4 → A5 → A6 → A7 → Option ρ → Prop) (hs : ∀ (rec : A1 → A2 → A3 → A4 → A5 → A6 → A7 → Option ρ) (a1 : A1) (a2 : A2) (a3 : A3) (a4 : A4) (a5 : A5) (a6 : A6) (a7 : A7), I a1 a2 a3 a4 a5 a6 a7 → (∀ (b1 : A1) (b2 : A2) (b3 : A3) (b4 : A4) (b5 : A5) (b6 : A6) (b7 : A7), I b1 b2 b3 b4 b5 b6 b7 → μ b1 b2 b3 b4 b5 b6 b7 < μ a1 a2 a3 a4 a5 a6 a7 → P b1 b2 b3 b4 b5 b6 b7 (rec b1 b2 b3 b4 b5 b6 b7)) → P a1 a2 a3 a4 a5 a6 a7 (body rec a1 a2 a3 a4 a5 a6 a7)) : ∀ (n : Nat) (a1 : A1) (a2 : A2) (a3 : A3) (a4 : A4) (a5 : A5) (a6 : A6) (a7 : A7), I a1 a2 a3 a4 a5 a6 a7 → μ a1 a2 a3 a4 a5 a6 a7 < n → P a1 a2 a3 a4 a5 a6 a7 (pv_lp7 body n a1 a2 a3 a4 a5 a6 a7)
  | 0, a1, a2, a3, a4, a5, a6, a7, _, h => absurd h (Nat.not_lt_zero _)
  | n + 1, a1, a2, a3, a4, a5, a6, a7, hi, h => hs _ a1 a2 a3 a4 a5 a6 a7 hi (fun b1 b2 b3 b4 b5 b6 b7 hb hm => pv_lp7_meas I μ P hs n b1 b2 b3 b4 b5 b6 b7 hb (Nat.lt_of_lt_of_le hm (Nat.le_of_lt_succ h)))
def pv_lp8 {ρ A1 A2 A3 A4 A5 A6 A7 A8 : Type} (body : (A1 → A2 → A3 → A4 → A5 → A6 → A7 → A8 → Option ρ) → A1 → A2 → A3 → A4 → A5 → A6 → A7 → A8 → Option ρ) : Nat → A1 → A2 → A3 → A4 → A5 → A6 → A7 → A8 → Option ρ
  | 0 => fun _ _ _ _ _ _ _ _ => none
  | n + 1 => body (pv_lp8 body n)
theorem pv_lp8_ind {ρ A1 A2 A3 A4 A5 A6 A7 A8 : Type} {body : (A1 → A2 → A3 → A4 → A5 → A6 → A7 → A8 → Option ρ) → A1 → A2 → A3 → A4 → A5 → A6 → A7 → A8 → Option ρ} (P : A1 → A2 → A3 → A4 → A5 → A6 → A7 → A8 → Option ρ → Prop) (h0 : ∀ (a1 : A1) (a2 : A2) (a3 : A3) (a4 : A4) (a5 : A5) (a6 : A6) (a7 : A7) (a8 : A8), P a1 a2 a3 a4 a5 a6 a7 a8 none) (hs : ∀ (rec : A1 → A2 → A3 → A4 → A5 → A6 → A7 → A8 → Option ρ), (∀ (a1 : A1) (a2 : A2) (a3 : A3) (a4 : A4) (a5 : A5) (a6 : A6) (a7 : A7) (a8 : A8), P a1 a2 a3 a4 a5 a6 a7 a8 (rec a1 a2 a3 a4 a5 a6 a7 a8)) → ∀ (a1 : A1) (a2 : A2) (a3 : A3) (a4 : A4) (a5 : A5) (a6 : A6) (a7 : A7) (a8 : A8), P a1 a2 a3 a4 a5 a6 a7 a8 (body rec a1 a2 a3 a4 a5 a6 a7 a8)) : ∀ (n : Nat) (a1 : A1) (a2 : A2) (a3 : A3) (a4 : A4) (a5 : A5) (a6 : A6) (a7 : A7) (a8 : A8), P a1 a2 a3 a4 a5 a6 a7 a8 (pv_lp8 body n a1 a2 a3 a4 a5 a6 a7 a8)
  | 0, a1, a2, a3, a4, a5, a6, a7, a8 => h0 a1 a2 a3 a4 a5 a6 a7 a8
  | n + 1, a1, a2, a3, a4, a5, a6, a7, a8 => hs _ (pv_lp8_ind P h0 hs n) a1 a2 a3 a4 a5 a6 a7 a8
theorem pv_lp8_meas {ρ A1 A2 A3 A4 A5 A6 A7 A8 : Type} {body : (A1 → A2 → A3 → A4 → A5 → A6 → A7 → A8 → Option ρ) → A1 → A2 → A3 → A4 → A5 → A6 → A7 → A8 → Option ρ} (I : A1 → A2 → A3 → A4 → A5 → A6 → A7 → A8 → Prop) (μ : A1 → A2 → A3 → A4 → A5 → A6 → A7 → A8 → Nat) (P : A1 → A2 → A3 → A4 → A5 → A6 → A7 → A8 → Option ρ → Prop) (hs : ∀ (rec : A1 → A2 → A3 → A4 → A5 → A6 → A7 → A8 → Option ρ) (a1 : A1) (a2 : A2) (a3 : A3) (a4 : A4) (a5 : A5) (a6 : A6) (a7 : A7) (a8 : A8), I a1 a2 a3 a4 a5 a6 a7 a8 → (∀ (b1 : A1) (b2 : A2) (b3 : A3) (b4 : A4) (b5 : A5) (b6 : A6) (b7 : A7) (b8 : A8), I b1 b2 b3 b4 b5 b6 b7 b8 → μ b1 b2 b3 b4 b5 b6 b7 b8 < μ a1 a2 a3 a4 a5 a6 a7 a8 → P b1 b2 b3 b4 b5 b6 b7 b8 (rec b1 b2 b3 b4 b5 b6 b7 b8)) → P a1 a2 a3 a4 a5 a6 a7 a8 (body rec a1 a2 a3 a4 a5 a6 a7 a8)) : ∀ (n : Nat) (a1 : A1) (a2 : A2) (a3 : A3) (a4 : A4) (a5 : A5) (a6 : A6) (a7 : A7) (a8 : A8), I a1 a2 a3 a4 a5 a6 a7 a8 → μ a1 a2 a3 a4 a5 a6 a7 a8 < n → P a1 a2 a3 a4 a5 a6 a7 a8 (pv_lp8 body n a1 a2 a3 a4 a5 a6 a7 a8)
  | 0, a1, a2, a3, a4, a5, a6, a7, a8, _, h => absurd h (Nat.not_lt_zero _)
  | n + 1, a1, a2, a3, a4, a5, a6, a7, a8, hi, h => hs _ a1 a2 a3 a4 a5 a6 a7 a8 hi (fun b1 b2 b3 b4 b5 b6 b7 b8 hb hm => pv_lp8_meas I μ P hs n b1 b2 b3 b4 b5 b6 b7 b8 hb (Nat.lt_of_lt_of_le hm (Nat.le_of_lt_succ h)))
def pv_lp9 {ρ A1 A2 A3 A4 A5 A6 A7 A8 A9 : Type} (body : (A1 → A2 → A3 → A4 → A5 → A6 → A7 → A8 → A9 → Option ρ) → A1 → A2 → A3 → A4 → A5 → A6 → A7 → A8 → A9 → Option ρ) : Nat → A1 → A2 → A3 → A4 → A5 → A6 → A7 → A8 → A9 → Option ρ
  | 0 => fun _ _ _ _ _ _ _ _ _ => none
  | n + 1 => body (pv_lp9 body n)
theorem pv_lp9_ind {ρ A1 A2 A3 A4 A5 A6 A7 A8 A9 : Type} {body : (A1 → A2 → A3 → A4 → A5 → A6 → A7 → A8 → A9 → Option ρ) → A1 → A2 → A3 → A4 → A5 → A6 → A7 → A8 → A9 → Option ρ} (P : A1 → A2 → A3 → A4 → A5 → A6 → A7 → A8 → A9 → Option ρ → Prop) (h0 : ∀ (a1 : A1) (a2 : A2) (a3 : A3) (a4 : A4) (a5 : A5) (a6 : A6) (a7 : A7) (a8 : A8) (a9 : A9), P a1 a2 a3 a4 a5 a6 a7 a8 a9 none) (hs : ∀ (rec : A1 → A2 → A3 → A4 → A5 → A6 → A7 → A8 → A9 → Option ρ), (∀ (a1 : A1) (a2 : A2) (a3 : A3) (a4 : A4) (a5 : A5) (a6 : A6) (a7 : A7) (a8 : A8) (a9 : A9), P a1 a2 a3 a4 a5 a6 a7 a8 a9 (rec a1 a2 a3 a4 a5 a6 a7 a8 a9)) → ∀ (a1 : A1) (a2 : A2) (a3 : A3) (a4 : A4) (a5 : A5) (a6 : A6) (a7 : A7) (a8 : A8) (a9 : A9), P a1 a2 a3 a4 a5 a6 a7 a8 a9 (body rec a1 a2 a3 a4 a5 a6 a7 a8 a9)) : ∀ (n : Nat) (a1 : A1) (a2 : A2) (a3 : A3) (a4 : A4) (a5 : A5) (a6 : A6) (a7 : A7) (a8 : A8) (a9 : A9), P a1 a2 a3 a4 a5 a6 a7 a8 a9 (pv_lp9 body n a1 a2 a3 a4 a5 a6 a7 a8 a9)
  | 0, a1, a2, a3, a4, a5, a6, a7, a8, a9 => h0 a1 a2 a3 a4 a5 a6 a7 a8 a9
  | n + 1, a1, a2, a3, a4, a5, a6, a7, a8, a9 => hs _ (pv_lp9_ind P h0 hs n) a1 a2 a3 a4 a5 a6 a7 a8 a9
theorem pv_lp9_meas {ρ A1 A2 A3 A4 A5 A6 A7 A8 A9 : Type} {body : (A1 → A2 → A3 → A4 → A5 → A6 → A7 → A8 → A9 → Option ρ) → A1 → A2 → A3 → A4 → A5 → A6 → A7 → A8 → A9 → Option ρ} (I : A1 → A2 → A3 → A4 → A5 → A6 → A7 → A8 → A9 → Prop) (μ : A1 → A2 → A3 → A4 → A5 → A6 → A7 → A8 → A9 → Nat) (P : A1 → A2 → A3 → A4 → A5 → A6 → A7 → A8 → A9 → Option ρ → Prop) (hs : ∀ (rec : A1 → A2 → A3 → A4 → A5 → A6 → A7 → A8 → A9 → Option ρ) (a1 : A1) (a2 : A2) (a3 : A3) (a4 : A4) (a5 : A5) (a6 : A6) (a7 : A7) (a8 : A8) (a9 : A9), I a1 a2 a3 a4 a5 a6 a7 a8 a9 → (∀ (b1 : A1) (b2 : A2) (b3 : A3) (b4 : A4) (b5 : A5) (b6 : A6) (b7 : A7) (b8 : A8) (b9 : A9), I b1 b2 b3 b4 b5 b6 b7 b8 b9 → μ b1 b2 b3 b4 b5 b6 b7 b8 b9 < μ a1 a2 a3 a4 a5 a6 a7 a8 a9 → P b1 b2 b3 b4 b5 b6 b7 b8 b9 (rec b1 b2 b3 b4 b5 b6 b7 b8 b9)) → P a1 a2 a3 a4 a5 a6 a7 a8 a9 (body rec a1 a2 a3 a4 a5 a6 a7 a8 a9)) : ∀ (n : Nat) (a1 : A1) (a2 : A2) (a3 : A3) (a4 : A4) (a5 : A5) (a6 : A6) (a7 : A7) (a8 : A8) (a9 : A9), I a1 a2 a3 a4 a5 a6 a7 a8 a9 → μ a1 a2 a3 a4 a5 a6 a7 a8 a9 < n → P a1 a2 a3 a4 a5 a6 a7 a8 a9 (pv_lp9 body n a1 a2 a3 a4 a5 a6 a7 a8 a9)
  | 0, a1, a2, a3, a4, a5, a6, a7, a8, a9, _, h => absurd h (Nat.not_lt_zero _)
  | n + 1, a1, a2, a3, a4, a5, a6, a7, a8, a9, hi, h => hs _ a1 a2 a3 a4 a5 a6 a7 a8 a9 hi (fun b1 b2 b3 b4 b5 b6 b7 b8 b9 hb hm => pv_lp9_meas I μ P hs n b1 b2 b3 b4 b5 b6 b7 b8 b9 hb (Nat.lt_of_lt_of_le hm (Nat.le_of_lt_succ h)))
end
section
/-! methods that write nothing -/
def pv_MtP {β : Type} (l : Launch) (y : MethodName) (cc : ByteArray) (nL : Nat) (ret : Option FieldType) (d : Nat) (κ : pv_K) (av : List Value) (M : pv_M) (inj : β → Option Value) (x : Option β) : Prop :=
  ∀ v, x = some v → Met l y (.code y cc nL ret :: UW) (pv_rm d) (pv_Pre κ av M) (pv_Post κ (inj v) M) 0 0 (fun q => κ.1 ≤ q)
def pv_QP {β : Type} (g : pv_X) (κ : pv_K) (inj : β → Option Value) (M : pv_M) : β → State → Prop := fun v => MQ g.2.2.2.2.2.2.2.1 (pv_Post κ (inj v) M) g.2.2.2.2.2.2.1 g.2.2.2.2.1 0 0 (fun q => κ.1 ≤ q)
def pv_cap {α ρ : Type} (x : Option α) (f : α → Option ρ) : Option ρ := match x with
  | some v => f v
  | none => none
theorem pv_enterP {β : Type} {l : Launch} {y : MethodName} {cc : ByteArray} {nL : Nat} {ret : Option FieldType} {d : Nat} {κ : pv_K} {av : List Value} {M : pv_M} {inj : β → Option Value} {x : Option β} (hy : plainName y.cls = true) (ha : (lg_sl av).length ≤ nL)
    (body : ∀ g : pv_X, g.2.1 = l → g.2.2.2.1 = pv_rm d → pv_Ok g κ nL cc y.cls ret → pv_R g κ pv_T pv_RF nL 0 0 (pv_QP g κ inj M) 0 (lv_args 0 av) [] M x) : pv_MtP l y cc nL ret d κ av M inj x := by
  intro v hv
  refine Met.ofW (cc := cc) (maxL := nL) (ret := ret) hy rfl ?_
  intro p e s m args below meth c s₁ B hml hP
  obtain ⟨rfl, hW, hKn⟩ := hP
  have hts := atoms_spec (ws := Cond.code y cc nL ret :: UW) B.pre
  have hown : s.vm.findClass y.cls = some m.cls := findClass_of_methodNamed B.named
  rw [lg_entry_eq]
  exact body (p, l, e, pv_rm d, s, m, av.toArray, below, meth, c) rfl rfl ⟨B.exec, B.bytes, hml, hown, fun w hw => hts w (List.mem_cons_of_mem _ hw), hKn, B.notSynchronized, B.returns⟩ v hv s.heap [] _ hW (fun q h => by cases h) (lv_entry av ha)
section PVRP
variable {g : pv_X} {κ : pv_K} {nL : Nat} {pc : Nat} {lv : List (Nat × Value)} {M : pv_M} {cc : ByteArray} {own : String}
theorem rw_iretP {r : Int32} (C : pv_Ok g κ nL cc own (some .int)) (hd : decode cc pc = .ok (.ireturn, 1)) : pv_R g κ pv_T pv_RF nL 0 0 (pv_QP g κ pv_ji M) pc lv [.int r] M (some r) := by
  intro v hv H locs ls hW hL hl
  cases hv
  exact W.iret C.1 C.2.1 C.2.2.2.2.2.2.2 (fun t ht hWm => ⟨rfl, by rw [ht]; exact hW⟩) hL hd C.2.2.2.2.2.2.1
theorem rw_zretP {r : Int32} (hr : r = 0 ∨ r = 1) (C : pv_Ok g κ nL cc own (some .boolean)) (hd : decode cc pc = .ok (.ireturn, 1)) : pv_R g κ pv_T pv_RF nL 0 0 (pv_QP g κ pv_ji M) pc lv [.int r] M (some r) := by
  intro v hv H locs ls hW hL hl
  cases hv
  have hn : narrow .boolean (.int r) = .int r := by rcases hr with rfl | rfl <;> decide +kernel
  exact W.zret C.1 C.2.1 C.2.2.2.2.2.2.2 hn (fun t ht hWm => ⟨rfl, by rw [ht]; exact hW⟩) hL hd C.2.2.2.2.2.2.1
theorem rw_zret_ckP {r : Int32} (C : pv_Ok g κ nL cc own (some .boolean)) (hd : decode cc pc = .ok (.ireturn, 1)) : pv_R g κ pv_T pv_RF nL 0 0 (pv_QP g κ pv_ji M) pc lv [.int r] M (if r = 0 ∨ r = 1 then some r else none) := by
  intro v hv
  by_cases h : r = 0 ∨ r = 1
  · rw [if_pos h] at hv
    exact rw_zretP h C hd v hv
  · rw [if_neg h] at hv
    cases hv
theorem rw_lretP {r : Int64} (C : pv_Ok g κ nL cc own (some .long)) (hd : decode cc pc = .ok (.lreturn, 1)) : pv_R g κ pv_T pv_RF nL 0 0 (pv_QP g κ pv_jl M) pc lv [.long r] M (some r) := by
  intro v hv H locs ls hW hL hl
  cases hv
  exact W.lret C.1 C.2.1 C.2.2.2.2.2.2.2 (fun t ht hWm => ⟨rfl, by rw [ht]; exact hW⟩) hL hd C.2.2.2.2.2.2.1
theorem rw_vretP (C : pv_Ok g κ nL cc own none) (hd : decode cc pc = .ok (.return_, 1)) : pv_R g κ pv_T pv_RF nL 0 0 (pv_QP g κ pv_ju M) pc lv [] M (some ()) := by
  intro v hv H locs ls hW hL hl
  cases hv
  exact W.vret C.1 C.2.1 C.2.2.2.2.2.2.2 (fun t ht hWm => ⟨rfl, by rw [ht]; exact hW⟩) hL hd C.2.2.2.2.2.2.1
theorem rw_aretP {r : Nat} {rt : FieldType} (hrt : (∃ n, rt = .object n) ∨ ∃ t, rt = .array t) (C : pv_Ok g κ nL cc own (some rt)) (hd : decode cc pc = .ok (.areturn, 1)) : pv_R g κ pv_T pv_RF nL 0 0 (pv_QP g κ (pv_jr κ) M) pc lv [.ref (κ.1 + r)] M (some r) := by
  intro v hv H locs ls hW hL hl
  cases hv
  exact W.aret C.1 C.2.1 C.2.2.2.2.2.2.2 hrt (Or.inr ⟨_, rfl⟩) (fun t ht hWm => ⟨rfl, by rw [ht]; exact hW⟩) hL hd C.2.2.2.2.2.2.1
end PVRP
section PVCP
variable {α β : Type} {g : pv_X} {κ : pv_K} {nL : Nat} {Q : α → State → Prop} {pc : Nat} {lv : List (Nat × Value)} {st : List Value} {M : pv_M} {cc : ByteArray} {own : String} {ret : Option FieldType}
theorem pv_met1 {l : Launch} {y : MethodName} {c2 : ByteArray} {n2 : Nat} {r2 : Option FieldType} {d2 : Nat} {av : List Value} {inj : β → Option Value} {b : β} (hM : pv_MtP l y c2 n2 r2 d2 κ av M inj (some b)) : pv_Mt l y c2 n2 r2 d2 κ av M inj (some (b, M)) := fun v hv => by
  cases hv
  exact hM b rfl
theorem pv_afterP {z : β → Option α} {v : α} {inj : β → Option Value} {q : β} {st0 : List Value} {a : Array Value} {H : Heap} {locs : List Loc} {ls : Array Slot} (hL : ∀ q ∈ locs, κ.1 ≤ q.base) (hl : lv_has ls nL lv)
    (hr : va_Run g.1 g.2.1 g.2.2.1 g.2.2.2.1 g.2.2.2.2.1 g.2.2.2.2.2.1 g.2.2.2.2.2.2.1 g.2.2.2.2.2.2.2.1 g.2.2.2.2.2.2.2.2.1 g.2.2.2.2.2.2.2.2.2 H locs 0 0 0 0 (F0 g.2.2.2.2.2.1 pc ls st0) st (pv_Post κ (inj q) M a) (fun q => κ.1 ≤ q))
    (hv : z q = some v) (k : ∀ r, pv_R g κ pv_T pv_RF nL 0 0 Q (pc + 3) lv ((inj r).toList ++ st) M (z r)) :
    W g.1 g.2.1 g.2.2.1 g.2.2.2.1 g.2.2.2.2.1 g.2.2.2.2.2.1 g.2.2.2.2.2.2.1 g.2.2.2.2.2.2.2.1 g.2.2.2.2.2.2.2.2.1 g.2.2.2.2.2.2.2.2.2 H locs 0 0 (Q v) (F0 g.2.2.2.2.2.1 pc ls st0) := by
  intro T hT X
  obtain ⟨v', st₀, t, T', L, h0, X', hL', e1, e2, ⟨ho, hWd⟩, stp⟩ := hr T hT X
  cases ho
  obtain ⟨t2, a1, b1⟩ := k q v hv T'.heap (locs ++ L) ls (by rw [e1]; exact hWd) (fun y hy => (List.mem_append.mp hy).elim (hL y) (hL' y)) hl T' rfl X'
  exact ⟨t2, stp t2 a1, b1⟩
/-- a call's row from one that names the memory -/
theorem pv_pure {x : Option β} {z : β → Option α} {st0 : List Value} (h : ∀ b, x = some b → pv_R g κ pv_T pv_RF nL 0 0 Q pc lv st0 M (pv_cal (some (b, M)) (fun r _ => z r))) : pv_R g κ pv_T pv_RF nL 0 0 Q pc lv st0 M (pv_cap x z) := by
  cases x with
  | none => exact rw_none
  | some b => exact h b rfl
theorem rw_callVP {i : Nat} {y : MethodName} {c2 : ByteArray} {n2 : Nat} {r2 : Option FieldType} {n d d2 : Nat} {k0 c nf : Nat} {T : u_T} {As : List Value} {inj : β → Option Value} {x : Option β} {z : β → Option α} (C : pv_Ok g κ nL cc own ret) (hR : g.2.2.2.1 = pv_rm d) (hd : decode cc pc = .ok (.invokevirtual i, 3)) (hw : pv_cv own i y c2 n2 r2 n) (hM : pv_MtP g.2.1 y c2 n2 r2 d2 κ (.ref (κ.1 + k0) :: As) M inj x) (hdd : d2 + 1 ≤ d) (hn2 : n2 ≤ 50) (hk : k0 < pv_T) (hs : pv_SH k0 = (c + 3, nf)) (hc : pv_cl[c]? = some (y.cls, T, nf)) (hA : As.length = n) (hst : ((st.map fun v => v.category).sum ≤ 8)) {st0 : List Value} (h0 : st0 = As.reverse ++ .ref (κ.1 + k0) :: st)
    (k : ∀ r, pv_R g κ pv_T pv_RF nL 0 0 Q (pc + 3) lv ((inj r).toList ++ st) M (z r)) : pv_R g κ pv_T pv_RF nL 0 0 Q pc lv st0 M (pv_cap x z) := by
  refine pv_pure (fun b hb v hv H locs ls hW hL hl => ?_)
  subst hb
  subst h0
  obtain ⟨w1, w2, w3, w4, w5, w6⟩ := hw
  have hg : GoodIn UW (wsV own i y.cls y (.code y c2 n2 r2 :: UW)) := pv_good (fun w h => by
    rcases List.mem_append.mp h with h | h
    · simp only [List.mem_cons, List.mem_nil_iff, or_false] at h
      rcases h with rfl | rfl | rfl | rfl
      · exact w1
      · exact w2
      · exact w3
      · exact w4
    · exact pv_codeUW w5 w h)
  refine pv_afterP (inj := inj) (q := b) hL hl (va_runV (As := As) (rest := st) ⟨C.1, C.2.1, C.2.2.1, C.2.2.2.1, C.2.2.2.2.1⟩ (hM b rfl) (cwV n C.2.2.2.2.1 hg rfl rfl rfl ⟨rfl, w6⟩ ?_) ⟨pv_blind, pv_recv C hW hk hs hc, pv_preU C hW⟩ rfl hA hl.1 rfl (lv_room hst) hd ?_) hv k
  · rw [hR]
    exact ⟨hdd, by show 8 + (n2 + 11) + 80 * d2 ≤ 80 * d; omega⟩
  · exact ⟨Nat.zero_le _, Nat.zero_le _⟩
theorem rw_callSP {i : Nat} {y : MethodName} {c2 : ByteArray} {n2 : Nat} {r2 : Option FieldType} {n d d2 : Nat} {As : List Value} {inj : β → Option Value} {x : Option β} {z : β → Option α} (C : pv_Ok g κ nL cc own ret) (hR : g.2.2.2.1 = pv_rm d) (hd : decode cc pc = .ok (.invokestatic i, 3)) (hw : pv_cs own i y c2 n2 r2 n) (hM : pv_MtP g.2.1 y c2 n2 r2 d2 κ As M inj x) (hdd : d2 + 1 ≤ d) (hn2 : n2 ≤ 50) (hA : As.length = n) (hst : ((st.map fun v => v.category).sum ≤ 8)) {st0 : List Value} (h0 : st0 = As.reverse ++ st)
    (k : ∀ r, pv_R g κ pv_T pv_RF nL 0 0 Q (pc + 3) lv ((inj r).toList ++ st) M (z r)) : pv_R g κ pv_T pv_RF nL 0 0 Q pc lv st0 M (pv_cap x z) := by
  refine pv_pure (fun b hb v hv H locs ls hW hL hl => ?_)
  subst hb
  subst h0
  obtain ⟨w1, w2, w3, w4, w5⟩ := hw
  have hg : GoodIn UW (va_wsS own i y (.code y c2 n2 r2 :: UW)) := pv_good (fun w h => by
    rcases List.mem_append.mp h with h | h
    · simp only [List.mem_cons, List.mem_nil_iff, or_false] at h
      rcases h with rfl | rfl | rfl
      · exact w1
      · exact w2
      · exact w3
    · exact pv_codeUW w4 w h)
  refine pv_afterP (inj := inj) (q := b) hL hl (va_runS (As := As) (rest := st) ⟨C.1, C.2.1, C.2.2.1, C.2.2.2.1, C.2.2.2.2.1⟩ (hM b rfl) (va_cwS n C.2.2.2.2.1 hg rfl rfl rfl w5 ?_) ⟨pv_blind, pv_preU C hW⟩ rfl hA hl.1 rfl (lv_room hst) hd ?_) hv k
  · rw [hR]
    exact ⟨hdd, by show 8 + (n2 + 11) + 80 * d2 ≤ 80 * d; omega⟩
  · exact ⟨Nat.zero_le _, Nat.zero_le _⟩
theorem rw_callNP {i : Nat} {y : MethodName} {c2 : ByteArray} {n2 : Nat} {r2 : Option FieldType} {n d d2 : Nat} {host : String} {As : List Value} {inj : β → Option Value} {x : Option β} {z : β → Option α} (C : pv_Ok g κ nL cc own ret) (hR : g.2.2.2.1 = pv_rm d) (hd : decode cc pc = .ok (.invokestatic i, 3)) (hw : pv_cn own i y c2 n2 r2 n host) (hM : pv_MtP g.2.1 y c2 n2 r2 d2 κ As M inj x) (hdd : d2 + 1 ≤ d) (hn2 : n2 ≤ 50) (hA : As.length = n) (hst : ((st.map fun v => v.category).sum ≤ 8)) {st0 : List Value} (h0 : st0 = As.reverse ++ st)
    (k : ∀ r, pv_R g κ pv_T pv_RF nL 0 0 Q (pc + 3) lv ((inj r).toList ++ st) M (z r)) : pv_R g κ pv_T pv_RF nL 0 0 Q pc lv st0 M (pv_cap x z) := by
  refine pv_pure (fun b hb v hv H locs ls hW hL hl => ?_)
  subst hb
  subst h0
  obtain ⟨w1, w2, w3, w4, w5⟩ := hw
  refine pv_afterP (inj := inj) (q := b) hL hl (va_runSN (As := As) (rest := st) ⟨C.1, C.2.1, C.2.2.1, C.2.2.2.1, C.2.2.2.2.1⟩ (hM b rfl) ⟨va_cnB n C.2.2.2.2.1 (pv_good (pv_codeUW w4)) rfl rfl rfl (C.2.2.2.2.2.1.2.1 _ w1) (C.2.2.2.2.1 _ w3) w5 ?_, C.2.2.2.2.1 _ w2, trivial⟩ ⟨pv_blind, pv_preU C hW⟩ rfl hA hl.1 rfl (lv_room hst) hd ?_) hv k
  · rw [hR]
    exact ⟨hdd, by show 8 + (n2 + 11) + 80 * d2 ≤ 80 * d; omega⟩
  · exact ⟨Nat.zero_le _, Nat.zero_le _⟩
end PVCP
theorem sh_0 : pv_SH 0 = (8 + 3, 20) := by decide +kernel
theorem sh_1 : pv_SH 1 = (5 + 3, 3) := by decide +kernel
theorem sh_3 : pv_SH 3 = (5 + 3, 3) := by decide +kernel
theorem sh_5 : pv_SH 5 = (5 + 3, 3) := by decide +kernel
theorem sh_7 : pv_SH 7 = (3 + 3, 2) := by decide +kernel
theorem sh_19 : pv_SH 19 = (3 + 3, 2) := by decide +kernel
theorem sh_29 : pv_SH 29 = (3 + 3, 2) := by decide +kernel
theorem sh_39 : pv_SH 39 = (2 + 3, 6) := by decide +kernel
theorem sh_53 : pv_SH 53 = (1 + 3, 7) := by decide +kernel
theorem sh_88 : pv_SH 88 = (1 + 3, 7) := by decide +kernel
theorem sh_123 : pv_SH 123 = (1 + 3, 7) := by decide +kernel
theorem sh_158 : pv_SH 158 = (0 + 3, 13) := by decide +kernel
theorem sh_179 : pv_SH 179 = (7 + 3, 3) := by decide +kernel
theorem sh_183 : pv_SH 183 = (6 + 3, 7) := by decide +kernel
theorem sh_188 : pv_SH 188 = (4 + 3, 3) := by decide +kernel
theorem sh_196 : pv_SH 196 = (9 + 3, 34) := by decide +kernel
def pv_isT (o : Nat) : Bool := o == 1 || o == 3 || o == 5
theorem pv_isT_or {o : Nat} (h : pv_isT o = true) : o = 1 ∨ o = 3 ∨ o = 5 := by
  simpa [pv_isT, or_assoc] using h
theorem pv_isT_lt {o : Nat} (h : pv_isT o = true) : o < pv_T := by
  rcases pv_isT_or h with rfl | rfl | rfl <;> decide
theorem pv_isT_sh {o : Nat} (h : pv_isT o = true) : pv_SH o = (5 + 3, 3) := by
  rcases pv_isT_or h with rfl | rfl | rfl <;> decide +kernel
theorem pv_isT_r1 {o : Nat} (h : pv_isT o = true) : pv_RF o 1 = some (o + 1) := by
  rcases pv_isT_or h with rfl | rfl | rfl <;> rfl
def pv_isW (o : Nat) : Bool := o == 7 || o == 19 || o == 29
theorem pv_isW_or {o : Nat} (h : pv_isW o = true) : o = 7 ∨ o = 19 ∨ o = 29 := by
  simpa [pv_isW, or_assoc] using h
theorem pv_isW_lt {o : Nat} (h : pv_isW o = true) : o < pv_T := by
  rcases pv_isW_or h with rfl | rfl | rfl <;> decide
theorem pv_isW_sh {o : Nat} (h : pv_isW o = true) : pv_SH o = (3 + 3, 2) := by
  rcases pv_isW_or h with rfl | rfl | rfl <;> decide +kernel
theorem pv_isW_r0 {o : Nat} (h : pv_isW o = true) : pv_RF o 0 = some (o + 1) := by
  rcases pv_isW_or h with rfl | rfl | rfl <;> rfl
def pv_isP (o : Nat) : Bool := o == 53 || o == 88 || o == 123
theorem pv_isP_or {o : Nat} (h : pv_isP o = true) : o = 53 ∨ o = 88 ∨ o = 123 := by
  simpa [pv_isP, or_assoc] using h
theorem pv_isP_lt {o : Nat} (h : pv_isP o = true) : o < pv_T := by
  rcases pv_isP_or h with rfl | rfl | rfl <;> decide
theorem pv_isP_sh {o : Nat} (h : pv_isP o = true) : pv_SH o = (1 + 3, 7) := by
  rcases pv_isP_or h with rfl | rfl | rfl <;> decide +kernel
theorem pv_isP_r0 {o : Nat} (h : pv_isP o = true) : pv_RF o 0 = some (39) := by
  rcases pv_isP_or h with rfl | rfl | rfl <;> rfl
theorem pv_isP_r2 {o : Nat} (h : pv_isP o = true) : pv_RF o 2 = some (o + 1) := by
  rcases pv_isP_or h with rfl | rfl | rfl <;> rfl
theorem pv_isP_r3 {o : Nat} (h : pv_isP o = true) : pv_RF o 3 = some (o + 12) := by
  rcases pv_isP_or h with rfl | rfl | rfl <;> rfl
theorem pv_isP_r4 {o : Nat} (h : pv_isP o = true) : pv_RF o 4 = some (o + 23) := by
  rcases pv_isP_or h with rfl | rfl | rfl <;> rfl
theorem pv_isP_r5 {o : Nat} (h : pv_isP o = true) : pv_RF o 5 = some (o + 34) := by
  rcases pv_isP_or h with rfl | rfl | rfl <;> rfl
theorem fl_X0_9 : pv_fl RX0 9 0 1 := ⟨TX0, 13, RX0, rfl, by decide, inlX0, mw_91, nmX0, tyX0_ok, rfl⟩
theorem fl_X0_15 : pv_fl RX0 15 0 2 := ⟨TX0, 13, RX0, rfl, by decide, inlX0, mw_92, nmX0, tyX0_ok, rfl⟩
theorem fl_X0_18 : pv_fl RX0 18 0 3 := ⟨TX0, 13, RX0, rfl, by decide, inlX0, mw_93, nmX0, tyX0_ok, rfl⟩
theorem fl_X0_23 : pv_fl RX0 23 0 4 := ⟨TX0, 13, RX0, rfl, by decide, inlX0, mw_95, nmX0, tyX0_ok, rfl⟩
theorem fl_X0_26 : pv_fl RX0 26 0 5 := ⟨TX0, 13, RX0, rfl, by decide, inlX0, mw_96, nmX0, tyX0_ok, rfl⟩
theorem fl_X0_29 : pv_fl RX0 29 0 6 := ⟨TX0, 13, RX0, rfl, by decide, inlX0, mw_97, nmX0, tyX0_ok, rfl⟩
theorem fl_X0_32 : pv_fl RX0 32 0 7 := ⟨TX0, 13, RX0, rfl, by decide, inlX0, mw_98, nmX0, tyX0_ok, rfl⟩
theorem fl_X0_35 : pv_fl RX0 35 0 8 := ⟨TX0, 13, RX0, rfl, by decide, inlX0, mw_99, nmX0, tyX0_ok, rfl⟩
theorem fl_X0_38 : pv_fl RX0 38 0 9 := ⟨TX0, 13, RX0, rfl, by decide, inlX0, mw_100, nmX0, tyX0_ok, rfl⟩
theorem fl_X0_41 : pv_fl RX0 41 0 10 := ⟨TX0, 13, RX0, rfl, by decide, inlX0, mw_101, nmX0, tyX0_ok, rfl⟩
theorem fl_X0_44 : pv_fl RX0 44 0 0 := ⟨TX0, 13, RX0, rfl, by decide, inlX0, mw_102, nmX0, tyX0_ok, rfl⟩
theorem fl_X0_48 : pv_fl RX0 48 2 1 := ⟨TX2, 6, RX2, rfl, by decide, inlX2, mw_633, nmX2, tyX2_ok, rfl⟩
theorem fl_X0_62 : pv_fl RX0 62 2 0 := ⟨TX2, 6, RX2, rfl, by decide, inlX2, mw_628, nmX2, tyX2_ok, rfl⟩
theorem fl_X0_72 : pv_fl RX0 72 0 11 := ⟨TX0, 13, RX0, rfl, by decide, inlX0, mw_688, nmX0, tyX0_ok, rfl⟩
theorem fl_X0_75 : pv_fl RX0 75 2 2 := ⟨TX2, 6, RX2, rfl, by decide, inlX2, mw_689, nmX2, tyX2_ok, rfl⟩
theorem fl_X0_81 : pv_fl RX0 81 0 12 := ⟨TX0, 13, RX0, rfl, by decide, inlX0, mw_690, nmX0, tyX0_ok, rfl⟩
theorem fl_X1_11 : pv_fl RX1 11 1 2 := ⟨TX1, 7, RX1, rfl, by decide, inlX1, mw_81, nmX1, tyX1_ok, rfl⟩
theorem fl_X1_16 : pv_fl RX1 16 1 3 := ⟨TX1, 7, RX1, rfl, by decide, inlX1, mw_82, nmX1, tyX1_ok, rfl⟩
theorem fl_X1_19 : pv_fl RX1 19 1 4 := ⟨TX1, 7, RX1, rfl, by decide, inlX1, mw_83, nmX1, tyX1_ok, rfl⟩
theorem fl_X1_22 : pv_fl RX1 22 1 5 := ⟨TX1, 7, RX1, rfl, by decide, inlX1, mw_84, nmX1, tyX1_ok, rfl⟩
theorem fl_X1_26 : pv_fl RX1 26 1 0 := ⟨TX1, 7, RX1, rfl, by decide, inlX1, mw_85, nmX1, tyX1_ok, rfl⟩
theorem fl_X1_30 : pv_fl RX1 30 1 1 := ⟨TX1, 7, RX1, rfl, by decide, inlX1, mw_86, nmX1, tyX1_ok, rfl⟩
theorem fl_X1_34 : pv_fl RX1 34 1 6 := ⟨TX1, 7, RX1, rfl, by decide, inlX1, mw_300, nmX1, tyX1_ok, rfl⟩
theorem fl_X1_37 : pv_fl RX1 37 2 2 := ⟨TX2, 6, RX2, rfl, by decide, inlX2, mw_301, nmX2, tyX2_ok, rfl⟩
theorem fl_X1_40 : pv_fl RX1 40 2 0 := ⟨TX2, 6, RX2, rfl, by decide, inlX2, mw_302, nmX2, tyX2_ok, rfl⟩
theorem fl_X1_53 : pv_fl RX1 53 2 1 := ⟨TX2, 6, RX2, rfl, by decide, inlX2, mw_311, nmX2, tyX2_ok, rfl⟩
theorem fl_X2_11 : pv_fl RX2 11 2 3 := ⟨TX2, 6, RX2, rfl, by decide, inlX2, mw_73, nmX2, tyX2_ok, rfl⟩
theorem fl_X2_16 : pv_fl RX2 16 2 4 := ⟨TX2, 6, RX2, rfl, by decide, inlX2, mw_74, nmX2, tyX2_ok, rfl⟩
theorem fl_X2_20 : pv_fl RX2 20 2 5 := ⟨TX2, 6, RX2, rfl, by decide, inlX2, mw_75, nmX2, tyX2_ok, rfl⟩
theorem fl_X2_23 : pv_fl RX2 23 2 2 := ⟨TX2, 6, RX2, rfl, by decide, inlX2, mw_266, nmX2, tyX2_ok, rfl⟩
theorem fl_X2_33 : pv_fl RX2 33 2 0 := ⟨TX2, 6, RX2, rfl, by decide, inlX2, mw_267, nmX2, tyX2_ok, rfl⟩
theorem fl_X2_36 : pv_fl RX2 36 2 1 := ⟨TX2, 6, RX2, rfl, by decide, inlX2, mw_268, nmX2, tyX2_ok, rfl⟩
theorem fl_X2_55 : pv_fl RX2 55 3 1 := ⟨TX3, 2, RX3, rfl, by decide, inlX3, mw_290, nmX3, tyX3_ok, rfl⟩
theorem fl_X2_60 : pv_fl RX2 60 3 0 := ⟨TX3, 2, RX3, rfl, by decide, inlX3, mw_291, nmX3, tyX3_ok, rfl⟩
theorem fl_X3_9 : pv_fl RX3 9 3 0 := ⟨TX3, 2, RX3, rfl, by decide, inlX3, mw_68, nmX3, tyX3_ok, rfl⟩
theorem fl_X3_14 : pv_fl RX3 14 3 1 := ⟨TX3, 2, RX3, rfl, by decide, inlX3, mw_437, nmX3, tyX3_ok, rfl⟩
theorem fl_X4_11 : pv_fl RX4 11 4 0 := ⟨TX4, 3, RX4, rfl, by decide, inlX4, mw_128, nmX4, tyX4_ok, rfl⟩
theorem fl_X4_15 : pv_fl RX4 15 4 1 := ⟨TX4, 3, RX4, rfl, by decide, inlX4, mw_129, nmX4, tyX4_ok, rfl⟩
theorem fl_X4_20 : pv_fl RX4 20 4 2 := ⟨TX4, 3, RX4, rfl, by decide, inlX4, mw_131, nmX4, tyX4_ok, rfl⟩
theorem fl_X5_9 : pv_fl RX5 9 5 0 := ⟨TX5, 3, RX5, rfl, by decide, inlX5, mw_61, nmX5, tyX5_ok, rfl⟩
theorem fl_X5_15 : pv_fl RX5 15 5 1 := ⟨TX5, 3, RX5, rfl, by decide, inlX5, mw_62, nmX5, tyX5_ok, rfl⟩
theorem fl_X5_19 : pv_fl RX5 19 5 2 := ⟨TX5, 3, RX5, rfl, by decide, inlX5, mw_182, nmX5, tyX5_ok, rfl⟩
theorem fl_X6_9 : pv_fl RX6 9 6 0 := ⟨TX6, 7, RX6, rfl, by decide, inlX6, mw_114, nmX6, tyX6_ok, rfl⟩
theorem fl_X6_15 : pv_fl RX6 15 6 1 := ⟨TX6, 7, RX6, rfl, by decide, inlX6, mw_115, nmX6, tyX6_ok, rfl⟩
theorem fl_X6_18 : pv_fl RX6 18 6 3 := ⟨TX6, 7, RX6, rfl, by decide, inlX6, mw_116, nmX6, tyX6_ok, rfl⟩
theorem fl_X6_22 : pv_fl RX6 22 6 4 := ⟨TX6, 7, RX6, rfl, by decide, inlX6, mw_117, nmX6, tyX6_ok, rfl⟩
theorem fl_X6_25 : pv_fl RX6 25 6 5 := ⟨TX6, 7, RX6, rfl, by decide, inlX6, mw_118, nmX6, tyX6_ok, rfl⟩
theorem fl_X6_28 : pv_fl RX6 28 6 6 := ⟨TX6, 7, RX6, rfl, by decide, inlX6, mw_119, nmX6, tyX6_ok, rfl⟩
theorem fl_X6_41 : pv_fl RX6 41 6 2 := ⟨TX6, 7, RX6, rfl, by decide, inlX6, mw_916, nmX6, tyX6_ok, rfl⟩
theorem fl_X7_11 : pv_fl RX7 11 7 0 := ⟨TX7, 3, RX7, rfl, by decide, inlX7, mw_106, nmX7, tyX7_ok, rfl⟩
theorem fl_X7_15 : pv_fl RX7 15 7 1 := ⟨TX7, 3, RX7, rfl, by decide, inlX7, mw_108, nmX7, tyX7_ok, rfl⟩
theorem fl_X7_19 : pv_fl RX7 19 7 2 := ⟨TX7, 3, RX7, rfl, by decide, inlX7, mw_109, nmX7, tyX7_ok, rfl⟩
theorem fl_X8_14 : pv_fl RX8 14 8 0 := ⟨TX8, 20, RX8, rfl, by decide, inlX8, mw_15, nmX8, tyX8_ok, rfl⟩
theorem fl_X8_18 : pv_fl RX8 18 8 1 := ⟨TX8, 20, RX8, rfl, by decide, inlX8, mw_16, nmX8, tyX8_ok, rfl⟩
theorem fl_X8_23 : pv_fl RX8 23 8 2 := ⟨TX8, 20, RX8, rfl, by decide, inlX8, mw_17, nmX8, tyX8_ok, rfl⟩
theorem fl_X8_29 : pv_fl RX8 29 8 3 := ⟨TX8, 20, RX8, rfl, by decide, inlX8, mw_21, nmX8, tyX8_ok, rfl⟩
theorem fl_X8_33 : pv_fl RX8 33 8 4 := ⟨TX8, 20, RX8, rfl, by decide, inlX8, mw_22, nmX8, tyX8_ok, rfl⟩
theorem fl_X8_36 : pv_fl RX8 36 8 5 := ⟨TX8, 20, RX8, rfl, by decide, inlX8, mw_23, nmX8, tyX8_ok, rfl⟩
theorem fl_X8_39 : pv_fl RX8 39 8 6 := ⟨TX8, 20, RX8, rfl, by decide, inlX8, mw_25, nmX8, tyX8_ok, rfl⟩
theorem fl_X8_43 : pv_fl RX8 43 8 7 := ⟨TX8, 20, RX8, rfl, by decide, inlX8, mw_26, nmX8, tyX8_ok, rfl⟩
theorem fl_X8_49 : pv_fl RX8 49 8 8 := ⟨TX8, 20, RX8, rfl, by decide, inlX8, mw_30, nmX8, tyX8_ok, rfl⟩
theorem fl_X8_58 : pv_fl RX8 58 8 9 := ⟨TX8, 20, RX8, rfl, by decide, inlX8, mw_34, nmX8, tyX8_ok, rfl⟩
theorem fl_X8_62 : pv_fl RX8 62 8 10 := ⟨TX8, 20, RX8, rfl, by decide, inlX8, mw_35, nmX8, tyX8_ok, rfl⟩
theorem fl_X8_65 : pv_fl RX8 65 8 11 := ⟨TX8, 20, RX8, rfl, by decide, inlX8, mw_36, nmX8, tyX8_ok, rfl⟩
theorem fl_X8_73 : pv_fl RX8 73 8 12 := ⟨TX8, 20, RX8, rfl, by decide, inlX8, mw_40, nmX8, tyX8_ok, rfl⟩
theorem fl_X8_78 : pv_fl RX8 78 8 13 := ⟨TX8, 20, RX8, rfl, by decide, inlX8, mw_44, nmX8, tyX8_ok, rfl⟩
theorem fl_X8_85 : pv_fl RX8 85 8 14 := ⟨TX8, 20, RX8, rfl, by decide, inlX8, mw_48, nmX8, tyX8_ok, rfl⟩
theorem fl_X8_92 : pv_fl RX8 92 8 15 := ⟨TX8, 20, RX8, rfl, by decide, inlX8, mw_52, nmX8, tyX8_ok, rfl⟩
theorem fl_X8_96 : pv_fl RX8 96 8 16 := ⟨TX8, 20, RX8, rfl, by decide, inlX8, mw_53, nmX8, tyX8_ok, rfl⟩
theorem fl_X8_100 : pv_fl RX8 100 8 17 := ⟨TX8, 20, RX8, rfl, by decide, inlX8, mw_54, nmX8, tyX8_ok, rfl⟩
theorem fl_X8_103 : pv_fl RX8 103 8 18 := ⟨TX8, 20, RX8, rfl, by decide, inlX8, mw_55, nmX8, tyX8_ok, rfl⟩
theorem fl_X8_106 : pv_fl RX8 106 8 19 := ⟨TX8, 20, RX8, rfl, by decide, inlX8, mw_56, nmX8, tyX8_ok, rfl⟩
theorem fl_X8_136 : pv_fl RX8 136 5 2 := ⟨TX5, 3, RX5, rfl, by decide, inlX5, mw_167, nmX5, tyX5_ok, rfl⟩
theorem fl_X8_182 : pv_fl RX8 182 3 1 := ⟨TX3, 2, RX3, rfl, by decide, inlX3, mw_432, nmX3, tyX3_ok, rfl⟩
theorem fl_X8_207 : pv_fl RX8 207 3 0 := ⟨TX3, 2, RX3, rfl, by decide, inlX3, mw_562, nmX3, tyX3_ok, rfl⟩
theorem fl_X8_215 : pv_fl RX8 215 2 0 := ⟨TX2, 6, RX2, rfl, by decide, inlX2, mw_346, nmX2, tyX2_ok, rfl⟩
theorem fl_X8_267 : pv_fl RX8 267 6 0 := ⟨TX6, 7, RX6, rfl, by decide, inlX6, mw_910, nmX6, tyX6_ok, rfl⟩
theorem fl_X8_270 : pv_fl RX8 270 6 1 := ⟨TX6, 7, RX6, rfl, by decide, inlX6, mw_911, nmX6, tyX6_ok, rfl⟩
theorem fl_X8_292 : pv_fl RX8 292 4 1 := ⟨TX4, 3, RX4, rfl, by decide, inlX4, mw_1010, nmX4, tyX4_ok, rfl⟩
theorem fl_X8_305 : pv_fl RX8 305 4 2 := ⟨TX4, 3, RX4, rfl, by decide, inlX4, mw_1052, nmX4, tyX4_ok, rfl⟩
theorem fl_X8_308 : pv_fl RX8 308 4 0 := ⟨TX4, 3, RX4, rfl, by decide, inlX4, mw_1062, nmX4, tyX4_ok, rfl⟩
theorem fl_X8_407 : pv_fl RX8 407 2 1 := ⟨TX2, 6, RX2, rfl, by decide, inlX2, mw_387, nmX2, tyX2_ok, rfl⟩
theorem fl_X9_7 : pv_fl RX9 7 9 0 := ⟨TX9, 34, RX9, rfl, by decide, inlX9, mw_138, nmX9, tyX9_ok, rfl⟩
theorem fl_X9_13 : pv_fl RX9 13 9 1 := ⟨TX9, 34, RX9, rfl, by decide, inlX9, mw_139, nmX9, tyX9_ok, rfl⟩
theorem fl_X9_16 : pv_fl RX9 16 9 2 := ⟨TX9, 34, RX9, rfl, by decide, inlX9, mw_140, nmX9, tyX9_ok, rfl⟩
theorem fl_X9_19 : pv_fl RX9 19 9 3 := ⟨TX9, 34, RX9, rfl, by decide, inlX9, mw_141, nmX9, tyX9_ok, rfl⟩
theorem fl_X9_22 : pv_fl RX9 22 9 5 := ⟨TX9, 34, RX9, rfl, by decide, inlX9, mw_142, nmX9, tyX9_ok, rfl⟩
theorem fl_X9_25 : pv_fl RX9 25 9 6 := ⟨TX9, 34, RX9, rfl, by decide, inlX9, mw_143, nmX9, tyX9_ok, rfl⟩
theorem fl_X9_28 : pv_fl RX9 28 9 8 := ⟨TX9, 34, RX9, rfl, by decide, inlX9, mw_144, nmX9, tyX9_ok, rfl⟩
theorem fl_X9_31 : pv_fl RX9 31 9 9 := ⟨TX9, 34, RX9, rfl, by decide, inlX9, mw_145, nmX9, tyX9_ok, rfl⟩
theorem fl_X9_34 : pv_fl RX9 34 9 10 := ⟨TX9, 34, RX9, rfl, by decide, inlX9, mw_146, nmX9, tyX9_ok, rfl⟩
theorem fl_X9_37 : pv_fl RX9 37 9 11 := ⟨TX9, 34, RX9, rfl, by decide, inlX9, mw_147, nmX9, tyX9_ok, rfl⟩
theorem fl_X9_40 : pv_fl RX9 40 9 13 := ⟨TX9, 34, RX9, rfl, by decide, inlX9, mw_148, nmX9, tyX9_ok, rfl⟩
theorem fl_X9_43 : pv_fl RX9 43 9 14 := ⟨TX9, 34, RX9, rfl, by decide, inlX9, mw_149, nmX9, tyX9_ok, rfl⟩
theorem fl_X9_46 : pv_fl RX9 46 9 15 := ⟨TX9, 34, RX9, rfl, by decide, inlX9, mw_150, nmX9, tyX9_ok, rfl⟩
theorem fl_X9_49 : pv_fl RX9 49 9 16 := ⟨TX9, 34, RX9, rfl, by decide, inlX9, mw_151, nmX9, tyX9_ok, rfl⟩
theorem fl_X9_52 : pv_fl RX9 52 9 18 := ⟨TX9, 34, RX9, rfl, by decide, inlX9, mw_152, nmX9, tyX9_ok, rfl⟩
theorem fl_X9_55 : pv_fl RX9 55 9 19 := ⟨TX9, 34, RX9, rfl, by decide, inlX9, mw_153, nmX9, tyX9_ok, rfl⟩
theorem fl_X9_58 : pv_fl RX9 58 9 20 := ⟨TX9, 34, RX9, rfl, by decide, inlX9, mw_154, nmX9, tyX9_ok, rfl⟩
theorem fl_X9_61 : pv_fl RX9 61 9 21 := ⟨TX9, 34, RX9, rfl, by decide, inlX9, mw_155, nmX9, tyX9_ok, rfl⟩
theorem fl_X9_64 : pv_fl RX9 64 9 22 := ⟨TX9, 34, RX9, rfl, by decide, inlX9, mw_156, nmX9, tyX9_ok, rfl⟩
theorem fl_X9_67 : pv_fl RX9 67 9 23 := ⟨TX9, 34, RX9, rfl, by decide, inlX9, mw_157, nmX9, tyX9_ok, rfl⟩
theorem fl_X9_70 : pv_fl RX9 70 9 24 := ⟨TX9, 34, RX9, rfl, by decide, inlX9, mw_158, nmX9, tyX9_ok, rfl⟩
theorem fl_X9_74 : pv_fl RX9 74 9 25 := ⟨TX9, 34, RX9, rfl, by decide, inlX9, mw_159, nmX9, tyX9_ok, rfl⟩
theorem fl_X9_77 : pv_fl RX9 77 9 27 := ⟨TX9, 34, RX9, rfl, by decide, inlX9, mw_160, nmX9, tyX9_ok, rfl⟩
theorem fl_X9_80 : pv_fl RX9 80 9 28 := ⟨TX9, 34, RX9, rfl, by decide, inlX9, mw_161, nmX9, tyX9_ok, rfl⟩
theorem fl_X9_83 : pv_fl RX9 83 9 33 := ⟨TX9, 34, RX9, rfl, by decide, inlX9, mw_162, nmX9, tyX9_ok, rfl⟩
theorem fl_X9_92 : pv_fl RX9 92 9 4 := ⟨TX9, 34, RX9, rfl, by decide, inlX9, mw_1005, nmX9, tyX9_ok, rfl⟩
theorem fl_X9_122 : pv_fl RX9 122 9 7 := ⟨TX9, 34, RX9, rfl, by decide, inlX9, mw_236, nmX9, tyX9_ok, rfl⟩
theorem fl_X9_171 : pv_fl RX9 171 9 12 := ⟨TX9, 34, RX9, rfl, by decide, inlX9, mw_374, nmX9, tyX9_ok, rfl⟩
theorem fl_X9_217 : pv_fl RX9 217 9 17 := ⟨TX9, 34, RX9, rfl, by decide, inlX9, mw_455, nmX9, tyX9_ok, rfl⟩
theorem fl_X9_284 : pv_fl RX9 284 9 26 := ⟨TX9, 34, RX9, rfl, by decide, inlX9, mw_838, nmX9, tyX9_ok, rfl⟩
theorem fl_X9_316 : pv_fl RX9 316 9 29 := ⟨TX9, 34, RX9, rfl, by decide, inlX9, mw_943, nmX9, tyX9_ok, rfl⟩
theorem fl_X9_319 : pv_fl RX9 319 9 30 := ⟨TX9, 34, RX9, rfl, by decide, inlX9, mw_944, nmX9, tyX9_ok, rfl⟩
theorem fl_X9_322 : pv_fl RX9 322 9 31 := ⟨TX9, 34, RX9, rfl, by decide, inlX9, mw_945, nmX9, tyX9_ok, rfl⟩
theorem fl_X9_336 : pv_fl RX9 336 9 32 := ⟨TX9, 34, RX9, rfl, by decide, inlX9, mw_456, nmX9, tyX9_ok, rfl⟩
theorem ff_X0_11 : pv_fin 0 11 false := fun T n C h => by cases h; rfl
theorem ff_X0_12 : pv_fin 0 12 false := fun T n C h => by cases h; rfl
theorem ff_X1_6 : pv_fin 1 6 false := fun T n C h => by cases h; rfl
theorem ff_X2_0 : pv_fin 2 0 false := fun T n C h => by cases h; rfl
theorem ff_X2_1 : pv_fin 2 1 false := fun T n C h => by cases h; rfl
theorem ff_X2_2 : pv_fin 2 2 false := fun T n C h => by cases h; rfl
theorem ff_X3_1 : pv_fin 3 1 false := fun T n C h => by cases h; rfl
theorem ff_X5_2 : pv_fin 5 2 false := fun T n C h => by cases h; rfl
theorem ff_X6_0 : pv_fin 6 0 false := fun T n C h => by cases h; rfl
theorem ff_X6_1 : pv_fin 6 1 false := fun T n C h => by cases h; rfl
theorem ff_X6_2 : pv_fin 6 2 false := fun T n C h => by cases h; rfl
theorem ff_X8_16 : pv_fin 8 16 false := fun T n C h => by cases h; rfl
theorem ff_X8_17 : pv_fin 8 17 false := fun T n C h => by cases h; rfl
theorem ff_X8_18 : pv_fin 8 18 false := fun T n C h => by cases h; rfl
theorem ff_X8_19 : pv_fin 8 19 false := fun T n C h => by cases h; rfl
theorem ff_X9_4 : pv_fin 9 4 false := fun T n C h => by cases h; rfl
theorem ff_X9_7 : pv_fin 9 7 false := fun T n C h => by cases h; rfl
theorem ff_X9_12 : pv_fin 9 12 false := fun T n C h => by cases h; rfl
theorem ff_X9_17 : pv_fin 9 17 false := fun T n C h => by cases h; rfl
theorem ff_X9_26 : pv_fin 9 26 false := fun T n C h => by cases h; rfl
theorem ff_X9_29 : pv_fin 9 29 false := fun T n C h => by cases h; rfl
theorem ff_X9_30 : pv_fin 9 30 false := fun T n C h => by cases h; rfl
theorem ff_X9_31 : pv_fin 9 31 false := fun T n C h => by cases h; rfl
theorem ff_X9_32 : pv_fin 9 32 false := fun T n C h => by cases h; rfl
theorem cv_L_13 : pv_cv RL 13 yX8_type cX8_type 4 (some .int) 2 := ⟨mw_163, mw_164, mw_165, mw_2, mw_166, ⟨by decide +kernel, by decide +kernel, by decide +kernel⟩⟩
theorem cv_L_17 : pv_cv RL 17 yX9_type cX9_type 3 (some .int) 2 := ⟨mw_188, mw_189, mw_190, mw_5, mw_191, ⟨by decide +kernel, by decide +kernel, by decide +kernel⟩⟩
theorem cv_L_18 : pv_cv RL 18 yX8_wipe cX8_wipe 4 (some .int) 1 := ⟨mw_200, mw_201, mw_202, mw_2, mw_203, ⟨by decide +kernel, by decide +kernel, by decide +kernel⟩⟩
theorem cv_L_22 : pv_cv RL 22 yX9_wipe cX9_wipe 3 (some .int) 1 := ⟨mw_204, mw_205, mw_206, mw_5, mw_207, ⟨by decide +kernel, by decide +kernel, by decide +kernel⟩⟩
theorem cv_L_23 : pv_cv RL 23 yX8_undo cX8_undo 3 (some .int) 1 := ⟨mw_208, mw_209, mw_210, mw_2, mw_211, ⟨by decide +kernel, by decide +kernel, by decide +kernel⟩⟩
theorem cv_L_26 : pv_cv RL 26 yX9_undo cX9_undo 2 (some .int) 1 := ⟨mw_212, mw_213, mw_214, mw_5, mw_215, ⟨by decide +kernel, by decide +kernel, by decide +kernel⟩⟩
theorem cv_L_27 : pv_cv RL 27 yX8_fault cX8_fault 2 (some .int) 1 := ⟨mw_216, mw_217, mw_218, mw_2, mw_219, ⟨by decide +kernel, by decide +kernel, by decide +kernel⟩⟩
theorem cv_L_30 : pv_cv RL 30 yX9_fault cX9_fault 2 (some .int) 1 := ⟨mw_228, mw_229, mw_230, mw_5, mw_231, ⟨by decide +kernel, by decide +kernel, by decide +kernel⟩⟩
theorem cv_L_31 : pv_cv RL 31 yX8_ticket cX8_ticket 4 (some .int) 3 := ⟨mw_254, mw_255, mw_256, mw_2, mw_257, ⟨by decide +kernel, by decide +kernel, by decide +kernel⟩⟩
theorem cv_L_35 : pv_cv RL 35 yX9_ticket cX9_ticket 4 (some .int) 3 := ⟨mw_351, mw_352, mw_353, mw_5, mw_354, ⟨by decide +kernel, by decide +kernel, by decide +kernel⟩⟩
theorem cv_L_36 : pv_cv RL 36 yX8_voter cX8_voter 3 (some .int) 2 := ⟨mw_375, mw_376, mw_377, mw_2, mw_378, ⟨by decide +kernel, by decide +kernel, by decide +kernel⟩⟩
theorem cv_L_39 : pv_cv RL 39 yX9_voter cX9_voter 3 (some .int) 2 := ⟨mw_393, mw_394, mw_395, mw_5, mw_396, ⟨by decide +kernel, by decide +kernel, by decide +kernel⟩⟩
theorem cv_L_40 : pv_cv RL 40 yX8_set cX8_set 4 (some .int) 2 := ⟨mw_401, mw_402, mw_403, mw_2, mw_404, ⟨by decide +kernel, by decide +kernel, by decide +kernel⟩⟩
theorem cv_L_43 : pv_cv RL 43 yX9_set cX9_set 4 (some .int) 2 := ⟨mw_405, mw_406, mw_407, mw_5, mw_408, ⟨by decide +kernel, by decide +kernel, by decide +kernel⟩⟩
theorem cv_L_44 : pv_cv RL 44 yX8_purse cX8_purse 4 (some .int) 2 := ⟨mw_412, mw_413, mw_414, mw_2, mw_415, ⟨by decide +kernel, by decide +kernel, by decide +kernel⟩⟩
theorem cv_L_47 : pv_cv RL 47 yX9_purse cX9_purse 4 (some .int) 2 := ⟨mw_419, mw_420, mw_421, mw_5, mw_422, ⟨by decide +kernel, by decide +kernel, by decide +kernel⟩⟩
theorem cv_L_48 : pv_cv RL 48 yX8_change cX8_change 6 (some .int) 4 := ⟨mw_428, mw_429, mw_430, mw_2, mw_431, ⟨by decide +kernel, by decide +kernel, by decide +kernel⟩⟩
theorem cv_L_52 : pv_cv RL 52 yX9_change cX9_change 5 (some .int) 4 := ⟨mw_442, mw_443, mw_444, mw_5, mw_445, ⟨by decide +kernel, by decide +kernel, by decide +kernel⟩⟩
theorem cv_L_53 : pv_cv RL 53 yX8_back cX8_back 3 (some .int) 1 := ⟨mw_447, mw_448, mw_449, mw_2, mw_450, ⟨by decide +kernel, by decide +kernel, by decide +kernel⟩⟩
theorem cv_L_56 : pv_cv RL 56 yX9_back cX9_back 3 (some .int) 1 := ⟨mw_451, mw_452, mw_453, mw_5, mw_454, ⟨by decide +kernel, by decide +kernel, by decide +kernel⟩⟩
theorem cv_L_57 : pv_cv RL 57 yX8_elected cX8_elected 3 (some .int) 2 := ⟨mw_457, mw_458, mw_459, mw_2, mw_460, ⟨by decide +kernel, by decide +kernel, by decide +kernel⟩⟩
theorem cv_L_60 : pv_cv RL 60 yX9_elected cX9_elected 3 (some .int) 2 := ⟨mw_465, mw_466, mw_467, mw_5, mw_468, ⟨by decide +kernel, by decide +kernel, by decide +kernel⟩⟩
theorem cv_L_61 : pv_cv RL 61 yX8_great cX8_great 3 (some .int) 2 := ⟨mw_505, mw_506, mw_507, mw_2, mw_508, ⟨by decide +kernel, by decide +kernel, by decide +kernel⟩⟩
theorem cv_L_64 : pv_cv RL 64 yX9_great cX9_great 3 (some .int) 2 := ⟨mw_513, mw_514, mw_515, mw_5, mw_516, ⟨by decide +kernel, by decide +kernel, by decide +kernel⟩⟩
theorem cv_L_65 : pv_cv RL 65 yX8_votes cX8_votes 4 (some .int) 3 := ⟨mw_521, mw_522, mw_523, mw_2, mw_524, ⟨by decide +kernel, by decide +kernel, by decide +kernel⟩⟩
theorem cv_L_68 : pv_cv RL 68 yX9_votes cX9_votes 4 (some .int) 3 := ⟨mw_529, mw_530, mw_531, mw_5, mw_532, ⟨by decide +kernel, by decide +kernel, by decide +kernel⟩⟩
theorem cv_L_69 : pv_cv RL 69 yX8_split cX8_split 4 (some .int) 0 := ⟨mw_533, mw_534, mw_535, mw_2, mw_536, ⟨by decide +kernel, by decide +kernel, by decide +kernel⟩⟩
theorem cv_L_73 : pv_cv RL 73 yX9_split cX9_split 1 (some .int) 0 := ⟨mw_537, mw_538, mw_539, mw_5, mw_540, ⟨by decide +kernel, by decide +kernel, by decide +kernel⟩⟩
theorem cv_L_74 : pv_cv RL 74 yX8_contract cX8_contract 8 (some .int) 6 := ⟨mw_545, mw_546, mw_547, mw_2, mw_548, ⟨by decide +kernel, by decide +kernel, by decide +kernel⟩⟩
theorem cv_L_78 : pv_cv RL 78 yX9_contract cX9_contract 9 (some .int) 6 := ⟨mw_549, mw_550, mw_551, mw_5, mw_552, ⟨by decide +kernel, by decide +kernel, by decide +kernel⟩⟩
theorem cv_L_79 : pv_cv RL 79 yX8_money cX8_money 3 (some .int) 2 := ⟨mw_553, mw_554, mw_555, mw_2, mw_556, ⟨by decide +kernel, by decide +kernel, by decide +kernel⟩⟩
theorem cv_L_82 : pv_cv RL 82 yX9_money cX9_money 3 (some .int) 2 := ⟨mw_571, mw_572, mw_573, mw_5, mw_574, ⟨by decide +kernel, by decide +kernel, by decide +kernel⟩⟩
theorem cv_L_83 : pv_cv RL 83 yX8_ruined cX8_ruined 3 (some .int) 1 := ⟨mw_588, mw_589, mw_590, mw_2, mw_591, ⟨by decide +kernel, by decide +kernel, by decide +kernel⟩⟩
theorem cv_L_86 : pv_cv RL 86 yX9_ruined cX9_ruined 2 (some .int) 1 := ⟨mw_597, mw_598, mw_599, mw_5, mw_600, ⟨by decide +kernel, by decide +kernel, by decide +kernel⟩⟩
theorem cv_L_87 : pv_cv RL 87 yX8_worst cX8_worst 3 (some .int) 1 := ⟨mw_605, mw_606, mw_607, mw_2, mw_608, ⟨by decide +kernel, by decide +kernel, by decide +kernel⟩⟩
theorem cv_L_90 : pv_cv RL 90 yX9_worst cX9_worst 2 (some .int) 1 := ⟨mw_609, mw_610, mw_611, mw_5, mw_612, ⟨by decide +kernel, by decide +kernel, by decide +kernel⟩⟩
theorem cv_L_91 : pv_cv RL 91 yX8_rest cX8_rest 2 (some .int) 1 := ⟨mw_620, mw_621, mw_622, mw_2, mw_623, ⟨by decide +kernel, by decide +kernel, by decide +kernel⟩⟩
theorem cv_L_94 : pv_cv RL 94 yX9_rest cX9_rest 2 (some .int) 1 := ⟨mw_651, mw_652, mw_653, mw_5, mw_654, ⟨by decide +kernel, by decide +kernel, by decide +kernel⟩⟩
theorem cv_L_95 : pv_cv RL 95 yX8_rests cX8_rests 1 (some .int) 0 := ⟨mw_680, mw_681, mw_682, mw_2, mw_683, ⟨by decide +kernel, by decide +kernel, by decide +kernel⟩⟩
theorem cv_L_98 : pv_cv RL 98 yX9_rests cX9_rests 1 (some .int) 0 := ⟨mw_703, mw_704, mw_705, mw_5, mw_706, ⟨by decide +kernel, by decide +kernel, by decide +kernel⟩⟩
theorem cv_L_99 : pv_cv RL 99 yX8_wins cX8_wins 3 (some .int) 2 := ⟨mw_711, mw_712, mw_713, mw_2, mw_714, ⟨by decide +kernel, by decide +kernel, by decide +kernel⟩⟩
theorem cv_L_102 : pv_cv RL 102 yX9_wins cX9_wins 3 (some .int) 2 := ⟨mw_742, mw_743, mw_744, mw_5, mw_745, ⟨by decide +kernel, by decide +kernel, by decide +kernel⟩⟩
theorem cv_L_103 : pv_cv RL 103 yX8_hedge cX8_hedge 2 (some .int) 1 := ⟨mw_758, mw_759, mw_760, mw_2, mw_761, ⟨by decide +kernel, by decide +kernel, by decide +kernel⟩⟩
theorem cv_L_106 : pv_cv RL 106 yX9_hedge cX9_hedge 2 (some .int) 1 := ⟨mw_775, mw_776, mw_777, mw_5, mw_778, ⟨by decide +kernel, by decide +kernel, by decide +kernel⟩⟩
theorem cv_L_107 : pv_cv RL 107 yX8_worth cX8_worth 4 (some .long) 3 := ⟨mw_787, mw_788, mw_789, mw_2, mw_790, ⟨by decide +kernel, by decide +kernel, by decide +kernel⟩⟩
theorem cv_L_111 : pv_cv RL 111 yX9_worth cX9_worth 4 (some .long) 3 := ⟨mw_825, mw_826, mw_827, mw_5, mw_828, ⟨by decide +kernel, by decide +kernel, by decide +kernel⟩⟩
theorem cv_L_112 : pv_cv RL 112 yX8_clash cX8_clash 1 (some .int) 0 := ⟨mw_853, mw_854, mw_855, mw_2, mw_856, ⟨by decide +kernel, by decide +kernel, by decide +kernel⟩⟩
theorem cv_L_115 : pv_cv RL 115 yX9_clash cX9_clash 1 (some .int) 0 := ⟨mw_857, mw_858, mw_859, mw_5, mw_860, ⟨by decide +kernel, by decide +kernel, by decide +kernel⟩⟩
theorem cv_L_116 : pv_cv RL 116 yX8_drop cX8_drop 1 (some .int) 0 := ⟨mw_861, mw_862, mw_863, mw_2, mw_864, ⟨by decide +kernel, by decide +kernel, by decide +kernel⟩⟩
theorem cv_L_119 : pv_cv RL 119 yX9_drop cX9_drop 1 (some .int) 0 := ⟨mw_880, mw_881, mw_882, mw_5, mw_883, ⟨by decide +kernel, by decide +kernel, by decide +kernel⟩⟩
theorem cv_L_120 : pv_cv RL 120 yX8_rate cX8_rate 5 (some .int) 4 := ⟨mw_891, mw_892, mw_893, mw_2, mw_894, ⟨by decide +kernel, by decide +kernel, by decide +kernel⟩⟩
theorem cv_L_123 : pv_cv RL 123 yX9_rate cX9_rate 7 (some .int) 4 := ⟨mw_902, mw_903, mw_904, mw_5, mw_905, ⟨by decide +kernel, by decide +kernel, by decide +kernel⟩⟩
theorem cv_L_124 : pv_cv RL 124 yX8_round cX8_round 2 (some .int) 1 := ⟨mw_906, mw_907, mw_908, mw_2, mw_909, ⟨by decide +kernel, by decide +kernel, by decide +kernel⟩⟩
theorem cv_L_127 : pv_cv RL 127 yX9_round cX9_round 2 (some .int) 1 := ⟨mw_934, mw_935, mw_936, mw_5, mw_937, ⟨by decide +kernel, by decide +kernel, by decide +kernel⟩⟩
theorem cv_L_128 : pv_cv RL 128 yX8_bill cX8_bill 5 (some .int) 3 := ⟨mw_956, mw_957, mw_958, mw_2, mw_959, ⟨by decide +kernel, by decide +kernel, by decide +kernel⟩⟩
theorem cv_L_131 : pv_cv RL 131 yX9_bill cX9_bill 4 (some .int) 3 := ⟨mw_960, mw_961, mw_962, mw_5, mw_963, ⟨by decide +kernel, by decide +kernel, by decide +kernel⟩⟩
theorem cv_L_132 : pv_cv RL 132 yX8_years cX8_years 7 (some .int) 0 := ⟨mw_964, mw_965, mw_966, mw_2, mw_967, ⟨by decide +kernel, by decide +kernel, by decide +kernel⟩⟩
theorem cv_L_135 : pv_cv RL 135 yX9_years cX9_years 1 (some .int) 0 := ⟨mw_968, mw_969, mw_970, mw_5, mw_971, ⟨by decide +kernel, by decide +kernel, by decide +kernel⟩⟩
theorem cv_L_136 : pv_cv RL 136 yX8_sheet cX8_sheet 4 (some .int) 3 := ⟨mw_976, mw_977, mw_978, mw_2, mw_979, ⟨by decide +kernel, by decide +kernel, by decide +kernel⟩⟩
theorem cv_L_139 : pv_cv RL 139 yX9_sheet cX9_sheet 5 (some .int) 3 := ⟨mw_994, mw_995, mw_996, mw_5, mw_997, ⟨by decide +kernel, by decide +kernel, by decide +kernel⟩⟩
theorem cv_L_140 : pv_cv RL 140 yX8_lose cX8_lose 3 (some .int) 1 := ⟨mw_1006, mw_1007, mw_1008, mw_2, mw_1009, ⟨by decide +kernel, by decide +kernel, by decide +kernel⟩⟩
theorem cv_L_143 : pv_cv RL 143 yX9_lose cX9_lose 2 (some .int) 1 := ⟨mw_1019, mw_1020, mw_1021, mw_5, mw_1022, ⟨by decide +kernel, by decide +kernel, by decide +kernel⟩⟩
theorem cv_L_144 : pv_cv RL 144 yX8_lay cX8_lay 6 (some .int) 4 := ⟨mw_1023, mw_1024, mw_1025, mw_2, mw_1026, ⟨by decide +kernel, by decide +kernel, by decide +kernel⟩⟩
theorem cv_L_147 : pv_cv RL 147 yX9_lay cX9_lay 6 (some .int) 4 := ⟨mw_1036, mw_1037, mw_1038, mw_5, mw_1039, ⟨by decide +kernel, by decide +kernel, by decide +kernel⟩⟩
theorem cv_L_148 : pv_cv RL 148 yX8_get cX8_get 5 (some .int) 3 := ⟨mw_1047, mw_1048, mw_1049, mw_2, mw_1050, ⟨by decide +kernel, by decide +kernel, by decide +kernel⟩⟩
theorem cv_L_151 : pv_cv RL 151 yX9_get cX9_get 4 (some .int) 3 := ⟨mw_1053, mw_1054, mw_1055, mw_5, mw_1056, ⟨by decide +kernel, by decide +kernel, by decide +kernel⟩⟩
theorem cv_L_152 : pv_cv RL 152 yX8_copy cX8_copy 6 (some .int) 5 := ⟨mw_1058, mw_1059, mw_1060, mw_2, mw_1061, ⟨by decide +kernel, by decide +kernel, by decide +kernel⟩⟩
theorem cv_L_156 : pv_cv RL 156 yX9_copy cX9_copy 7 (some .int) 5 := ⟨mw_1067, mw_1068, mw_1069, mw_5, mw_1070, ⟨by decide +kernel, by decide +kernel, by decide +kernel⟩⟩
theorem cv_L_157 : pv_cv RL 157 yX8_read cX8_read 5 (some .int) 1 := ⟨mw_1071, mw_1072, mw_1073, mw_2, mw_1074, ⟨by decide +kernel, by decide +kernel, by decide +kernel⟩⟩
theorem cv_L_160 : pv_cv RL 160 yX9_read cX9_read 3 (some .int) 1 := ⟨mw_1078, mw_1079, mw_1080, mw_5, mw_1081, ⟨by decide +kernel, by decide +kernel, by decide +kernel⟩⟩
theorem cv_L_161 : pv_cv RL 161 yX8_write cX8_write 5 (some .int) 2 := ⟨mw_1083, mw_1084, mw_1085, mw_2, mw_1086, ⟨by decide +kernel, by decide +kernel, by decide +kernel⟩⟩
theorem cv_L_164 : pv_cv RL 164 yX9_write cX9_write 5 (some .int) 2 := ⟨mw_1087, mw_1088, mw_1089, mw_5, mw_1090, ⟨by decide +kernel, by decide +kernel, by decide +kernel⟩⟩
theorem cv_L_165 : pv_cv RL 165 yX8_count cX8_count 2 (some .int) 1 := ⟨mw_1091, mw_1092, mw_1093, mw_2, mw_1094, ⟨by decide +kernel, by decide +kernel, by decide +kernel⟩⟩
theorem cv_L_168 : pv_cv RL 168 yX9_count cX9_count 2 (some .int) 1 := ⟨mw_1096, mw_1097, mw_1098, mw_5, mw_1099, ⟨by decide +kernel, by decide +kernel, by decide +kernel⟩⟩
theorem cv_L_169 : pv_cv RL 169 yX8_digest cX8_digest 4 (some .long) 0 := ⟨mw_1100, mw_1101, mw_1102, mw_2, mw_1103, ⟨by decide +kernel, by decide +kernel, by decide +kernel⟩⟩
theorem cv_L_173 : pv_cv RL 173 yX9_digest cX9_digest 7 (some .long) 0 := ⟨mw_1145, mw_1146, mw_1147, mw_5, mw_1148, ⟨by decide +kernel, by decide +kernel, by decide +kernel⟩⟩
theorem cv_X0_54 : pv_cv RX0 54 yX0_players cX0_players 1 (some .int) 0 := ⟨mw_629, mw_630, mw_631, mw_39, mw_632, ⟨by decide +kernel, by decide +kernel, by decide +kernel⟩⟩
theorem cs_X0_58 : pv_cs RX0 58 yX0_toldParty cX0_toldParty 2 (some .int) 2 := ⟨mw_634, mw_635, mw_39, mw_636, ⟨by decide +kernel, by decide +kernel, by decide +kernel⟩⟩
theorem cv_X0_65 : pv_cv RX0 65 yX0_prepare cX0_prepare 2 none 0 := ⟨mw_641, mw_642, mw_643, mw_39, mw_644, ⟨by decide +kernel, by decide +kernel, by decide +kernel⟩⟩
theorem cv_X0_68 : pv_cv RX0 68 yX0_isContent cX0_isContent 7 (some .boolean) 2 := ⟨mw_647, mw_648, mw_649, mw_39, mw_650, ⟨by decide +kernel, by decide +kernel, by decide +kernel⟩⟩
theorem cv_X0_78 : pv_cv RX0 78 yX0_restsOfSpread cX0_restsOfSpread 5 (some .int) 2 := ⟨mw_691, mw_692, mw_693, mw_39, mw_694, ⟨by decide +kernel, by decide +kernel, by decide +kernel⟩⟩
theorem cs_X0_84 : pv_cs RX0 84 yJ7_fill_53178 cJ7_fill_53178 4 none 2 := ⟨mw_645, mw_121, mw_122, mw_123, ⟨by decide +kernel, by decide +kernel, by decide +kernel⟩⟩
theorem cv_X0_90 : pv_cv RX0 90 yX2_fillGains cX2_fillGains 5 none 3 := ⟨mw_646, mw_317, mw_318, mw_29, mw_319, ⟨by decide +kernel, by decide +kernel, by decide +kernel⟩⟩
theorem cv_X0_98 : pv_cv RX0 98 yX0_restsOfSums cX0_restsOfSums 5 (some .int) 0 := ⟨mw_695, mw_696, mw_697, mw_39, mw_698, ⟨by decide +kernel, by decide +kernel, by decide +kernel⟩⟩
theorem cv_X0_101 : pv_cv RX0 101 yX0_rowsFrom cX0_rowsFrom 4 (some .int) 1 := ⟨mw_699, mw_700, mw_701, mw_39, mw_702, ⟨by decide +kernel, by decide +kernel, by decide +kernel⟩⟩
theorem cv_X0_105 : pv_cv RX0 105 yX0_findWin cX0_findWin 5 none 1 := ⟨mw_719, mw_720, mw_721, mw_39, mw_722, ⟨by decide +kernel, by decide +kernel, by decide +kernel⟩⟩
theorem cv_X0_109 : pv_cv RX0 109 yX0_fillSupport cX0_fillSupport 5 none 1 := ⟨mw_723, mw_724, mw_725, mw_39, mw_726, ⟨by decide +kernel, by decide +kernel, by decide +kernel⟩⟩
theorem cv_X0_112 : pv_cv RX0 112 yX0_tryTicket cX0_tryTicket 7 none 4 := ⟨mw_732, mw_733, mw_734, mw_39, mw_735, ⟨by decide +kernel, by decide +kernel, by decide +kernel⟩⟩
theorem cv_X0_116 : pv_cv RX0 116 yX2_owed cX2_owed 2 (some .int) 1 := ⟨mw_727, mw_390, mw_391, mw_29, mw_392, ⟨by decide +kernel, by decide +kernel, by decide +kernel⟩⟩
theorem cv_X0_119 : pv_cv RX0 119 yX2_unitOf cX2_unitOf 2 (some .int) 1 := ⟨mw_728, mw_313, mw_314, mw_29, mw_315, ⟨by decide +kernel, by decide +kernel, by decide +kernel⟩⟩
theorem cs_X0_122 : pv_cs RX0 122 yX0_supportPlace cX0_supportPlace 2 (some .int) 2 := ⟨mw_729, mw_730, mw_39, mw_731, ⟨by decide +kernel, by decide +kernel, by decide +kernel⟩⟩
theorem cv_X0_125 : pv_cv RX0 125 yX2_figure cX2_figure 4 (some .int) 3 := ⟨mw_737, mw_283, mw_284, mw_29, mw_285, ⟨by decide +kernel, by decide +kernel, by decide +kernel⟩⟩
theorem cv_X0_134 : pv_cv RX0 134 yX0_fillOdds cX0_fillOdds 4 none 1 := ⟨mw_766, mw_767, mw_768, mw_39, mw_769, ⟨by decide +kernel, by decide +kernel, by decide +kernel⟩⟩
theorem cv_X0_137 : pv_cv RX0 137 yX0_isEven cX0_isEven 6 (some .boolean) 3 := ⟨mw_771, mw_772, mw_773, mw_39, mw_774, ⟨by decide +kernel, by decide +kernel, by decide +kernel⟩⟩
theorem cv_X0_141 : pv_cv RX0 141 yX2_gain cX2_gain 4 (some .int) 3 := ⟨mw_770, mw_321, mw_322, mw_29, mw_323, ⟨by decide +kernel, by decide +kernel, by decide +kernel⟩⟩
theorem cv_X1_43 : pv_cv RX1 43 yX1_leaveOpen cX1_leaveOpen 3 none 2 := ⟨mw_303, mw_304, mw_305, mw_33, mw_306, ⟨by decide +kernel, by decide +kernel, by decide +kernel⟩⟩
theorem cv_X1_47 : pv_cv RX1 47 yX1_hold cX1_hold 7 none 2 := ⟨mw_307, mw_308, mw_309, mw_33, mw_310, ⟨by decide +kernel, by decide +kernel, by decide +kernel⟩⟩
theorem cv_X1_50 : pv_cv RX1 50 yX1_repeatFirst cX1_repeatFirst 3 none 2 := ⟨mw_331, mw_332, mw_333, mw_33, mw_334, ⟨by decide +kernel, by decide +kernel, by decide +kernel⟩⟩
theorem cv_X1_56 : pv_cv RX1 56 yX2_unitOf cX2_unitOf 2 (some .int) 1 := ⟨mw_312, mw_313, mw_314, mw_29, mw_315, ⟨by decide +kernel, by decide +kernel, by decide +kernel⟩⟩
theorem cv_X1_60 : pv_cv RX1 60 yX2_fillGains cX2_fillGains 5 none 3 := ⟨mw_316, mw_317, mw_318, mw_29, mw_319, ⟨by decide +kernel, by decide +kernel, by decide +kernel⟩⟩
theorem cv_X1_64 : pv_cv RX1 64 yX1_approve cX1_approve 6 none 2 := ⟨mw_324, mw_325, mw_326, mw_33, mw_327, ⟨by decide +kernel, by decide +kernel, by decide +kernel⟩⟩
theorem cv_X1_72 : pv_cv RX1 72 yX2_figure cX2_figure 4 (some .int) 3 := ⟨mw_330, mw_283, mw_284, mw_29, mw_285, ⟨by decide +kernel, by decide +kernel, by decide +kernel⟩⟩
theorem cv_X2_27 : pv_cv RX2 27 yX5_items cX5_items 1 (some .int) 0 := ⟨mw_269, mw_270, mw_271, mw_14, mw_272, ⟨by decide +kernel, by decide +kernel, by decide +kernel⟩⟩
theorem cv_X2_39 : pv_cv RX2 39 yX5_byteOf cX5_byteOf 3 (some .int) 2 := ⟨mw_274, mw_275, mw_276, mw_14, mw_277, ⟨by decide +kernel, by decide +kernel, by decide +kernel⟩⟩
theorem cv_X2_43 : pv_cv RX2 43 yX2_carry cX2_carry 5 none 2 := ⟨mw_278, mw_279, mw_280, mw_29, mw_281, ⟨by decide +kernel, by decide +kernel, by decide +kernel⟩⟩
theorem cv_X2_47 : pv_cv RX2 47 yX2_alter cX2_alter 5 none 2 := ⟨mw_286, mw_287, mw_288, mw_29, mw_289, ⟨by decide +kernel, by decide +kernel, by decide +kernel⟩⟩
theorem cv_X2_51 : pv_cv RX2 51 yX2_figure cX2_figure 4 (some .int) 3 := ⟨mw_282, mw_283, mw_284, mw_29, mw_285, ⟨by decide +kernel, by decide +kernel, by decide +kernel⟩⟩
theorem cv_X2_63 : pv_cv RX2 63 yX2_gain cX2_gain 4 (some .int) 3 := ⟨mw_320, mw_321, mw_322, mw_29, mw_323, ⟨by decide +kernel, by decide +kernel, by decide +kernel⟩⟩
theorem cs_X4_23 : pv_cs RX4 23 yJ7_fill_53178 cJ7_fill_53178 4 none 2 := ⟨mw_132, mw_121, mw_122, mw_123, ⟨by decide +kernel, by decide +kernel, by decide +kernel⟩⟩
theorem cv_X4_33 : pv_cv RX4 33 yX4_isLost cX4_isLost 2 (some .boolean) 1 := ⟨mw_1031, mw_1012, mw_1013, mw_51, mw_1014, ⟨by decide +kernel, by decide +kernel, by decide +kernel⟩⟩
theorem cv_X5_22 : pv_cv RX5 22 yX5_isFull cX5_isFull 1 (some .boolean) 0 := ⟨mw_187, mw_179, mw_180, mw_14, mw_181, ⟨by decide +kernel, by decide +kernel, by decide +kernel⟩⟩
theorem cv_X5_26 : pv_cv RX5 26 yX5_fits cX5_fits 4 (some .boolean) 1 := ⟨mw_224, mw_225, mw_226, mw_14, mw_227, ⟨by decide +kernel, by decide +kernel, by decide +kernel⟩⟩
theorem cv_X5_30 : pv_cv RX5 30 yX5_faultPlace cX5_faultPlace 2 (some .int) 0 := ⟨mw_273, mw_221, mw_222, mw_14, mw_223, ⟨by decide +kernel, by decide +kernel, by decide +kernel⟩⟩
theorem cs_X6_31 : pv_cs RX6 31 yJ7_fill_53178 cJ7_fill_53178 4 none 2 := ⟨mw_120, mw_121, mw_122, mw_123, ⟨by decide +kernel, by decide +kernel, by decide +kernel⟩⟩
theorem cv_X6_44 : pv_cv RX6 44 yX6_goOn cX6_goOn 7 none 4 := ⟨mw_917, mw_918, mw_919, mw_47, mw_920, ⟨by decide +kernel, by decide +kernel, by decide +kernel⟩⟩
theorem cv_X6_52 : pv_cv RX6 52 yX6_comeBack cX6_comeBack 4 none 3 := ⟨mw_921, mw_922, mw_923, mw_47, mw_924, ⟨by decide +kernel, by decide +kernel, by decide +kernel⟩⟩
theorem cv_X6_56 : pv_cv RX6 56 yX6_isOnWay cX6_isOnWay 4 (some .boolean) 2 := ⟨mw_926, mw_927, mw_928, mw_47, mw_929, ⟨by decide +kernel, by decide +kernel, by decide +kernel⟩⟩
theorem cv_X7_26 : pv_cv RX7 26 yX5_items cX5_items 1 (some .int) 0 := ⟨mw_800, mw_270, mw_271, mw_14, mw_272, ⟨by decide +kernel, by decide +kernel, by decide +kernel⟩⟩
theorem cv_X7_32 : pv_cv RX7 32 yX7_startAnew cX7_startAnew 2 none 0 := ⟨mw_801, mw_802, mw_803, mw_43, mw_804, ⟨by decide +kernel, by decide +kernel, by decide +kernel⟩⟩
theorem cv_X7_35 : pv_cv RX7 35 yX7_takes cX7_takes 7 (some .boolean) 2 := ⟨mw_805, mw_806, mw_807, mw_43, mw_808, ⟨by decide +kernel, by decide +kernel, by decide +kernel⟩⟩
theorem cs_X7_39 : pv_cs RX7 39 yJ6_bitCount_0f7a4 cJ6_bitCount_0f7a4 1 (some .int) 1 := ⟨mw_869, mw_870, mw_871, mw_872, ⟨by decide +kernel, by decide +kernel, by decide +kernel⟩⟩
theorem cv_X7_45 : pv_cv RX7 45 yX7_agreesWithout cX7_agreesWithout 5 (some .boolean) 3 := ⟨mw_876, mw_877, mw_878, mw_43, mw_879, ⟨by decide +kernel, by decide +kernel, by decide +kernel⟩⟩
theorem cv_X7_49 : pv_cv RX7 49 yX5_byteOf cX5_byteOf 3 (some .int) 2 := ⟨mw_809, mw_275, mw_276, mw_14, mw_277, ⟨by decide +kernel, by decide +kernel, by decide +kernel⟩⟩
theorem cv_X7_53 : pv_cv RX7 53 yX7_isTold cX7_isTold 3 (some .boolean) 2 := ⟨mw_810, mw_811, mw_812, mw_43, mw_813, ⟨by decide +kernel, by decide +kernel, by decide +kernel⟩⟩
theorem cv_X7_57 : pv_cv RX7 57 yX7_join cX7_join 17 none 3 := ⟨mw_814, mw_815, mw_816, mw_43, mw_817, ⟨by decide +kernel, by decide +kernel, by decide +kernel⟩⟩
theorem cs_X8_110 : pv_cs RX8 110 yJ7_fill_53178 cJ7_fill_53178 4 none 2 := ⟨mw_133, mw_121, mw_122, mw_123, ⟨by decide +kernel, by decide +kernel, by decide +kernel⟩⟩
theorem cs_X8_116 : pv_cs RX8 116 yX8_isText cX8_isText 1 (some .boolean) 1 := ⟨mw_168, mw_169, mw_2, mw_170, ⟨by decide +kernel, by decide +kernel, by decide +kernel⟩⟩
theorem cs_X8_120 : pv_cs RX8 120 yX8_isWithin cX8_isWithin 3 (some .boolean) 3 := ⟨mw_171, mw_172, mw_2, mw_173, ⟨by decide +kernel, by decide +kernel, by decide +kernel⟩⟩
theorem cv_X8_124 : pv_cv RX8 124 yX8_textOf cX8_textOf 2 (some (.object "PoundVotes$Text")) 1 := ⟨mw_174, mw_175, mw_176, mw_2, mw_177, ⟨by decide +kernel, by decide +kernel, by decide +kernel⟩⟩
theorem cv_X8_128 : pv_cv RX8 128 yX5_isFull cX5_isFull 1 (some .boolean) 0 := ⟨mw_178, mw_179, mw_180, mw_14, mw_181, ⟨by decide +kernel, by decide +kernel, by decide +kernel⟩⟩
theorem cv_X8_132 : pv_cv RX8 132 yX5_append cX5_append 2 none 1 := ⟨mw_183, mw_184, mw_185, mw_14, mw_186, ⟨by decide +kernel, by decide +kernel, by decide +kernel⟩⟩
theorem cv_X8_139 : pv_cv RX8 139 yX5_faultPlace cX5_faultPlace 2 (some .int) 0 := ⟨mw_220, mw_221, mw_222, mw_14, mw_223, ⟨by decide +kernel, by decide +kernel, by decide +kernel⟩⟩
theorem cv_X8_143 : pv_cv RX8 143 yX8_settle cX8_settle 1 none 0 := ⟨mw_258, mw_259, mw_260, mw_2, mw_261, ⟨by decide +kernel, by decide +kernel, by decide +kernel⟩⟩
theorem cs_X8_146 : pv_cs RX8 146 yX8_isYear cX8_isYear 1 (some .boolean) 1 := ⟨mw_339, mw_340, mw_2, mw_341, ⟨by decide +kernel, by decide +kernel, by decide +kernel⟩⟩
theorem cv_X8_149 : pv_cv RX8 149 yX8_isParty cX8_isParty 2 (some .boolean) 1 := ⟨mw_342, mw_343, mw_344, mw_2, mw_345, ⟨by decide +kernel, by decide +kernel, by decide +kernel⟩⟩
theorem cs_X8_152 : pv_cs RX8 152 yX8_isUnit cX8_isUnit 1 (some .boolean) 1 := ⟨mw_347, mw_348, mw_2, mw_349, ⟨by decide +kernel, by decide +kernel, by decide +kernel⟩⟩
theorem cv_X8_155 : pv_cv RX8 155 yX2_figure cX2_figure 4 (some .int) 3 := ⟨mw_350, mw_283, mw_284, mw_29, mw_285, ⟨by decide +kernel, by decide +kernel, by decide +kernel⟩⟩
theorem cv_X8_159 : pv_cv RX8 159 yX8_isOnRoll cX8_isOnRoll 2 (some .boolean) 1 := ⟨mw_383, mw_384, mw_385, mw_2, mw_386, ⟨by decide +kernel, by decide +kernel, by decide +kernel⟩⟩
theorem cv_X8_162 : pv_cv RX8 162 yX2_unitOf cX2_unitOf 2 (some .int) 1 := ⟨mw_388, mw_313, mw_314, mw_29, mw_315, ⟨by decide +kernel, by decide +kernel, by decide +kernel⟩⟩
theorem cv_X8_166 : pv_cv RX8 166 yX2_owed cX2_owed 2 (some .int) 1 := ⟨mw_389, mw_390, mw_391, mw_29, mw_392, ⟨by decide +kernel, by decide +kernel, by decide +kernel⟩⟩
theorem cs_X8_174 : pv_cs RX8 174 yX8_isPerson cX8_isPerson 1 (some .boolean) 1 := ⟨mw_416, mw_417, mw_2, mw_418, ⟨by decide +kernel, by decide +kernel, by decide +kernel⟩⟩
theorem cv_X8_177 : pv_cv RX8 177 yX3_isFull cX3_isFull 1 (some .boolean) 0 := ⟨mw_433, mw_434, mw_435, mw_20, mw_436, ⟨by decide +kernel, by decide +kernel, by decide +kernel⟩⟩
theorem cv_X8_178 : pv_cv RX8 178 yX3_next cX3_next 2 (some (.array .int)) 0 := ⟨mw_438, mw_439, mw_440, mw_20, mw_441, ⟨by decide +kernel, by decide +kernel, by decide +kernel⟩⟩
theorem cv_X8_183 : pv_cv RX8 183 yX8_pollBy cX8_pollBy 2 (some (.object "PoundVotes$Poll")) 1 := ⟨mw_292, mw_293, mw_294, mw_2, mw_295, ⟨by decide +kernel, by decide +kernel, by decide +kernel⟩⟩
theorem cv_X8_187 : pv_cv RX8 187 yX1_winner cX1_winner 3 (some .int) 2 := ⟨mw_461, mw_462, mw_463, mw_33, mw_464, ⟨by decide +kernel, by decide +kernel, by decide +kernel⟩⟩
theorem cv_X8_191 : pv_cv RX8 191 yX1_greatness cX1_greatness 3 (some .int) 2 := ⟨mw_509, mw_510, mw_511, mw_33, mw_512, ⟨by decide +kernel, by decide +kernel, by decide +kernel⟩⟩
theorem cv_X8_194 : pv_cv RX8 194 yX1_tally cX1_tally 4 (some .int) 3 := ⟨mw_525, mw_526, mw_527, mw_33, mw_528, ⟨by decide +kernel, by decide +kernel, by decide +kernel⟩⟩
theorem cv_X8_197 : pv_cv RX8 197 yX1_update cX1_update 3 none 0 := ⟨mw_296, mw_297, mw_298, mw_33, mw_299, ⟨by decide +kernel, by decide +kernel, by decide +kernel⟩⟩
theorem cv_X8_201 : pv_cv RX8 201 yX8_moneyBehind cX8_moneyBehind 6 (some .int) 2 := ⟨mw_558, mw_559, mw_560, mw_2, mw_561, ⟨by decide +kernel, by decide +kernel, by decide +kernel⟩⟩
theorem cv_X8_204 : pv_cv RX8 204 yX8_firstRuin cX8_firstRuin 5 (some .int) 0 := ⟨mw_592, mw_593, mw_594, mw_2, mw_595, ⟨by decide +kernel, by decide +kernel, by decide +kernel⟩⟩
theorem cv_X8_211 : pv_cv RX8 211 yX8_paidBy cX8_paidBy 3 (some .int) 2 := ⟨mw_567, mw_568, mw_569, mw_2, mw_570, ⟨by decide +kernel, by decide +kernel, by decide +kernel⟩⟩
theorem cv_X8_218 : pv_cv RX8 218 yX0_isTold cX0_isTold 4 (some .boolean) 1 := ⟨mw_624, mw_625, mw_626, mw_39, mw_627, ⟨by decide +kernel, by decide +kernel, by decide +kernel⟩⟩
theorem cv_X8_221 : pv_cv RX8 221 yX0_isRest cX0_isRest 4 (some .boolean) 1 := ⟨mw_637, mw_638, mw_639, mw_39, mw_640, ⟨by decide +kernel, by decide +kernel, by decide +kernel⟩⟩
theorem cv_X8_224 : pv_cv RX8 224 yX0_restfulRows cX0_restfulRows 1 (some .int) 0 := ⟨mw_684, mw_685, mw_686, mw_39, mw_687, ⟨by decide +kernel, by decide +kernel, by decide +kernel⟩⟩
theorem cv_X8_227 : pv_cv RX8 227 yX0_winningTicket cX0_winningTicket 2 (some .int) 1 := ⟨mw_715, mw_716, mw_717, mw_39, mw_718, ⟨by decide +kernel, by decide +kernel, by decide +kernel⟩⟩
theorem cv_X8_230 : pv_cv RX8 230 yX0_winningUnlikeness cX0_winningUnlikeness 2 (some .int) 1 := ⟨mw_738, mw_739, mw_740, mw_39, mw_741, ⟨by decide +kernel, by decide +kernel, by decide +kernel⟩⟩
theorem cv_X8_233 : pv_cv RX8 233 yX0_evenHolding cX0_evenHolding 8 (some .int) 1 := ⟨mw_762, mw_763, mw_764, mw_39, mw_765, ⟨by decide +kernel, by decide +kernel, by decide +kernel⟩⟩
theorem cs_X8_236 : pv_cs RX8 236 yX7_isKind cX7_isKind 1 (some .boolean) 1 := ⟨mw_793, mw_794, mw_43, mw_795, ⟨by decide +kernel, by decide +kernel, by decide +kernel⟩⟩
theorem cv_X8_241 : pv_cv RX8 241 yX7_firstClash cX7_firstClash 5 (some .int) 1 := ⟨mw_796, mw_797, mw_798, mw_43, mw_799, ⟨by decide +kernel, by decide +kernel, by decide +kernel⟩⟩
theorem cv_X8_245 : pv_cv RX8 245 yX7_isTold cX7_isTold 3 (some .boolean) 2 := ⟨mw_820, mw_811, mw_812, mw_43, mw_813, ⟨by decide +kernel, by decide +kernel, by decide +kernel⟩⟩
theorem cv_X8_250 : pv_cv RX8 250 yX7_aboveOf cX7_aboveOf 7 (some .long) 2 := ⟨mw_821, mw_822, mw_823, mw_43, mw_824, ⟨by decide +kernel, by decide +kernel, by decide +kernel⟩⟩
theorem cv_X8_254 : pv_cv RX8 254 yX7_fewestDropped cX7_fewestDropped 5 (some .int) 1 := ⟨mw_865, mw_866, mw_867, mw_43, mw_868, ⟨by decide +kernel, by decide +kernel, by decide +kernel⟩⟩
theorem cs_X8_257 : pv_cs RX8 257 yX6_isTown cX6_isTown 1 (some .boolean) 1 := ⟨mw_895, mw_896, mw_47, mw_897, ⟨by decide +kernel, by decide +kernel, by decide +kernel⟩⟩
theorem cv_X8_260 : pv_cv RX8 260 yX6_replaceRate cX6_replaceRate 7 (some .int) 4 := ⟨mw_898, mw_899, mw_900, mw_47, mw_901, ⟨by decide +kernel, by decide +kernel, by decide +kernel⟩⟩
theorem cv_X8_264 : pv_cv RX8 264 yX6_findRound cX6_findRound 3 none 0 := ⟨mw_912, mw_913, mw_914, mw_47, mw_915, ⟨by decide +kernel, by decide +kernel, by decide +kernel⟩⟩
theorem cv_X8_273 : pv_cv RX8 273 yX6_bestTown cX6_bestTown 2 (some .int) 1 := ⟨mw_930, mw_931, mw_932, mw_47, mw_933, ⟨by decide +kernel, by decide +kernel, by decide +kernel⟩⟩
theorem cs_X8_276 : pv_cs RX8 276 yX4_isSheet cX4_isSheet 1 (some .boolean) 1 := ⟨mw_980, mw_981, mw_51, mw_982, ⟨by decide +kernel, by decide +kernel, by decide +kernel⟩⟩
theorem cs_X8_279 : pv_cs RX8 279 yX4_isForm cX4_isForm 1 (some .boolean) 1 := ⟨mw_983, mw_984, mw_51, mw_985, ⟨by decide +kernel, by decide +kernel, by decide +kernel⟩⟩
theorem cv_X8_282 : pv_cv RX8 282 yX8_find cX8_find 2 (some .int) 1 := ⟨mw_986, mw_987, mw_988, mw_2, mw_989, ⟨by decide +kernel, by decide +kernel, by decide +kernel⟩⟩
theorem cv_X8_285 : pv_cv RX8 285 yX4_begin cX4_begin 4 none 3 := ⟨mw_990, mw_991, mw_992, mw_51, mw_993, ⟨by decide +kernel, by decide +kernel, by decide +kernel⟩⟩
theorem cv_X8_289 : pv_cv RX8 289 yX4_isLost cX4_isLost 2 (some .boolean) 1 := ⟨mw_1011, mw_1012, mw_1013, mw_51, mw_1014, ⟨by decide +kernel, by decide +kernel, by decide +kernel⟩⟩
theorem cv_X8_295 : pv_cv RX8 295 yX4_forget cX4_forget 2 none 1 := ⟨mw_1015, mw_1016, mw_1017, mw_51, mw_1018, ⟨by decide +kernel, by decide +kernel, by decide +kernel⟩⟩
theorem cv_X8_298 : pv_cv RX8 298 yX4_accessFinding cX4_accessFinding 4 (some .int) 3 := ⟨mw_1027, mw_1028, mw_1029, mw_51, mw_1030, ⟨by decide +kernel, by decide +kernel, by decide +kernel⟩⟩
theorem cv_X8_301 : pv_cv RX8 301 yX4_store cX4_store 4 none 3 := ⟨mw_1032, mw_1033, mw_1034, mw_51, mw_1035, ⟨by decide +kernel, by decide +kernel, by decide +kernel⟩⟩
theorem cv_X8_311 : pv_cv RX8 311 yX4_hasItems cX4_hasItems 4 (some .boolean) 3 := ⟨mw_1063, mw_1064, mw_1065, mw_51, mw_1066, ⟨by decide +kernel, by decide +kernel, by decide +kernel⟩⟩
theorem cv_X8_323 : pv_cv RX8 323 yX5_items cX5_items 1 (some .int) 0 := ⟨mw_1095, mw_270, mw_271, mw_14, mw_272, ⟨by decide +kernel, by decide +kernel, by decide +kernel⟩⟩
theorem cv_X8_327 : pv_cv RX8 327 yX8_count cX8_count 2 (some .int) 1 := ⟨mw_1105, mw_1092, mw_1093, mw_2, mw_1094, ⟨by decide +kernel, by decide +kernel, by decide +kernel⟩⟩
theorem cs_X8_330 : pv_cs RX8 330 yX8_mix cX8_mix 4 (some .long) 2 := ⟨mw_1106, mw_1107, mw_2, mw_1108, ⟨by decide +kernel, by decide +kernel, by decide +kernel⟩⟩
theorem cv_X8_334 : pv_cv RX8 334 yX8_fault cX8_fault 2 (some .int) 1 := ⟨mw_1110, mw_217, mw_218, mw_2, mw_219, ⟨by decide +kernel, by decide +kernel, by decide +kernel⟩⟩
theorem cv_X8_337 : pv_cv RX8 337 yX8_mixYears cX8_mixYears 11 (some .long) 1 := ⟨mw_1111, mw_1112, mw_1113, mw_2, mw_1114, ⟨by decide +kernel, by decide +kernel, by decide +kernel⟩⟩
theorem cv_X8_341 : pv_cv RX8 341 yX8_mixPeople cX8_mixPeople 6 (some .long) 1 := ⟨mw_1121, mw_1122, mw_1123, mw_2, mw_1124, ⟨by decide +kernel, by decide +kernel, by decide +kernel⟩⟩
theorem cv_X8_344 : pv_cv RX8 344 yX8_mixVotes cX8_mixVotes 6 (some .long) 1 := ⟨mw_1129, mw_1130, mw_1131, mw_2, mw_1132, ⟨by decide +kernel, by decide +kernel, by decide +kernel⟩⟩
theorem cv_X8_347 : pv_cv RX8 347 yX8_mixRatios cX8_mixRatios 6 (some .long) 1 := ⟨mw_1136, mw_1137, mw_1138, mw_2, mw_1139, ⟨by decide +kernel, by decide +kernel, by decide +kernel⟩⟩
theorem cv_X8_350 : pv_cv RX8 350 yX8_round cX8_round 2 (some .int) 1 := ⟨mw_1143, mw_907, mw_908, mw_2, mw_909, ⟨by decide +kernel, by decide +kernel, by decide +kernel⟩⟩
theorem cv_X8_353 : pv_cv RX8 353 yX8_years cX8_years 7 (some .int) 0 := ⟨mw_1144, mw_965, mw_966, mw_2, mw_967, ⟨by decide +kernel, by decide +kernel, by decide +kernel⟩⟩
theorem cv_X8_359 : pv_cv RX8 359 yX8_elected cX8_elected 3 (some .int) 2 := ⟨mw_1116, mw_458, mw_459, mw_2, mw_460, ⟨by decide +kernel, by decide +kernel, by decide +kernel⟩⟩
theorem cv_X8_362 : pv_cv RX8 362 yX8_great cX8_great 3 (some .int) 2 := ⟨mw_1117, mw_506, mw_507, mw_2, mw_508, ⟨by decide +kernel, by decide +kernel, by decide +kernel⟩⟩
theorem cv_X8_365 : pv_cv RX8 365 yX8_ticket cX8_ticket 4 (some .int) 3 := ⟨mw_1118, mw_255, mw_256, mw_2, mw_257, ⟨by decide +kernel, by decide +kernel, by decide +kernel⟩⟩
theorem cv_X8_368 : pv_cv RX8 368 yX8_votes cX8_votes 4 (some .int) 3 := ⟨mw_1119, mw_522, mw_523, mw_2, mw_524, ⟨by decide +kernel, by decide +kernel, by decide +kernel⟩⟩
theorem cv_X8_371 : pv_cv RX8 371 yX8_split cX8_split 4 (some .int) 0 := ⟨mw_1120, mw_534, mw_535, mw_2, mw_536, ⟨by decide +kernel, by decide +kernel, by decide +kernel⟩⟩
theorem cv_X8_374 : pv_cv RX8 374 yX8_money cX8_money 3 (some .int) 2 := ⟨mw_1125, mw_554, mw_555, mw_2, mw_556, ⟨by decide +kernel, by decide +kernel, by decide +kernel⟩⟩
theorem cv_X8_377 : pv_cv RX8 377 yX8_hedge cX8_hedge 2 (some .int) 1 := ⟨mw_1126, mw_759, mw_760, mw_2, mw_761, ⟨by decide +kernel, by decide +kernel, by decide +kernel⟩⟩
theorem cv_X8_380 : pv_cv RX8 380 yX8_ruined cX8_ruined 3 (some .int) 1 := ⟨mw_1127, mw_589, mw_590, mw_2, mw_591, ⟨by decide +kernel, by decide +kernel, by decide +kernel⟩⟩
theorem cv_X8_383 : pv_cv RX8 383 yX8_worst cX8_worst 3 (some .int) 1 := ⟨mw_1128, mw_606, mw_607, mw_2, mw_608, ⟨by decide +kernel, by decide +kernel, by decide +kernel⟩⟩
theorem cv_X8_386 : pv_cv RX8 386 yX8_rest cX8_rest 2 (some .int) 1 := ⟨mw_1133, mw_621, mw_622, mw_2, mw_623, ⟨by decide +kernel, by decide +kernel, by decide +kernel⟩⟩
theorem cv_X8_389 : pv_cv RX8 389 yX8_rests cX8_rests 1 (some .int) 0 := ⟨mw_1134, mw_681, mw_682, mw_2, mw_683, ⟨by decide +kernel, by decide +kernel, by decide +kernel⟩⟩
theorem cv_X8_392 : pv_cv RX8 392 yX8_wins cX8_wins 3 (some .int) 2 := ⟨mw_1135, mw_712, mw_713, mw_2, mw_714, ⟨by decide +kernel, by decide +kernel, by decide +kernel⟩⟩
theorem cv_X8_395 : pv_cv RX8 395 yX8_worth cX8_worth 4 (some .long) 3 := ⟨mw_1140, mw_788, mw_789, mw_2, mw_790, ⟨by decide +kernel, by decide +kernel, by decide +kernel⟩⟩
theorem cv_X8_399 : pv_cv RX8 399 yX8_clash cX8_clash 1 (some .int) 0 := ⟨mw_1141, mw_854, mw_855, mw_2, mw_856, ⟨by decide +kernel, by decide +kernel, by decide +kernel⟩⟩
theorem cv_X8_402 : pv_cv RX8 402 yX8_drop cX8_drop 1 (some .int) 0 := ⟨mw_1142, mw_862, mw_863, mw_2, mw_864, ⟨by decide +kernel, by decide +kernel, by decide +kernel⟩⟩
theorem cv_X8_409 : pv_cv RX8 409 yX2_take cX2_take 6 none 3 := ⟨mw_262, mw_263, mw_264, mw_29, mw_265, ⟨by decide +kernel, by decide +kernel, by decide +kernel⟩⟩
theorem cv_X8_413 : pv_cv RX8 413 yX8_paid cX8_paid 2 (some .int) 1 := ⟨mw_563, mw_564, mw_565, mw_2, mw_566, ⟨by decide +kernel, by decide +kernel, by decide +kernel⟩⟩
theorem cs_X9_88 : pv_cs RX9 88 yX9_in cX9_in 6 (some .boolean) 3 := ⟨mw_197, mw_198, mw_5, mw_199, ⟨by decide +kernel, by decide +kernel, by decide +kernel⟩⟩
theorem cs_X9_98 : pv_cs RX9 98 yX9_isSheet cX9_isSheet 1 (some .boolean) 1 := ⟨mw_998, mw_999, mw_5, mw_1000, ⟨by decide +kernel, by decide +kernel, by decide +kernel⟩⟩
theorem cv_X9_104 : pv_cv RX9 104 yX9_met cX9_met 2 (some .int) 1 := ⟨mw_1001, mw_1002, mw_1003, mw_5, mw_1004, ⟨by decide +kernel, by decide +kernel, by decide +kernel⟩⟩
theorem cv_X9_108 : pv_cv RX9 108 yX9_lacks cX9_lacks 4 (some .int) 3 := ⟨mw_1040, mw_1041, mw_1042, mw_5, mw_1043, ⟨by decide +kernel, by decide +kernel, by decide +kernel⟩⟩
theorem cs_X9_112 : pv_cs RX9 112 yX9_cut cX9_cut 2 (some .int) 2 := ⟨mw_1044, mw_1045, mw_5, mw_1046, ⟨by decide +kernel, by decide +kernel, by decide +kernel⟩⟩
theorem cs_X9_117 : pv_cs RX9 117 yX9_isText cX9_isText 1 (some .boolean) 1 := ⟨mw_193, mw_194, mw_5, mw_195, ⟨by decide +kernel, by decide +kernel, by decide +kernel⟩⟩
theorem cv_X9_125 : pv_cv RX9 125 yX9_here cX9_here 2 (some .int) 1 := ⟨mw_250, mw_251, mw_252, mw_5, mw_253, ⟨by decide +kernel, by decide +kernel, by decide +kernel⟩⟩
theorem cv_X9_138 : pv_cv RX9 138 yX9_tells cX9_tells 6 (some .int) 3 := ⟨mw_241, mw_242, mw_243, mw_5, mw_244, ⟨by decide +kernel, by decide +kernel, by decide +kernel⟩⟩
theorem cv_X9_141 : pv_cv RX9 141 yX9_readsThing cX9_readsThing 5 (some .boolean) 1 := ⟨mw_237, mw_238, mw_239, mw_5, mw_240, ⟨by decide +kernel, by decide +kernel, by decide +kernel⟩⟩
theorem cv_X9_144 : pv_cv RX9 144 yX9_readsText cX9_readsText 4 (some .int) 1 := ⟨mw_232, mw_233, mw_234, mw_5, mw_235, ⟨by decide +kernel, by decide +kernel, by decide +kernel⟩⟩
theorem cv_X9_151 : pv_cv RX9 151 yX9_reads cX9_reads 2 none 0 := ⟨mw_355, mw_356, mw_357, mw_5, mw_358, ⟨by decide +kernel, by decide +kernel, by decide +kernel⟩⟩
theorem cv_X9_154 : pv_cv RX9 154 yX9_isVoter cX9_isVoter 2 (some .boolean) 1 := ⟨mw_397, mw_398, mw_399, mw_5, mw_400, ⟨by decide +kernel, by decide +kernel, by decide +kernel⟩⟩
theorem cs_X9_157 : pv_cs RX9 157 yX9_isTwo cX9_isTwo 1 (some .boolean) 1 := ⟨mw_409, mw_410, mw_5, mw_411, ⟨by decide +kernel, by decide +kernel, by decide +kernel⟩⟩
theorem cs_X9_160 : pv_cs RX9 160 yX9_isAnyVoter cX9_isAnyVoter 1 (some .boolean) 1 := ⟨mw_424, mw_425, mw_5, mw_426, ⟨by decide +kernel, by decide +kernel, by decide +kernel⟩⟩
theorem cs_X9_165 : pv_cs RX9 165 yX9_isYear cX9_isYear 1 (some .boolean) 1 := ⟨mw_359, mw_360, mw_5, mw_361, ⟨by decide +kernel, by decide +kernel, by decide +kernel⟩⟩
theorem cs_X9_168 : pv_cs RX9 168 yX9_isUnit cX9_isUnit 1 (some .boolean) 1 := ⟨mw_367, mw_368, mw_5, mw_369, ⟨by decide +kernel, by decide +kernel, by decide +kernel⟩⟩
theorem cv_X9_174 : pv_cv RX9 174 yX9_isParty cX9_isParty 2 (some .boolean) 1 := ⟨mw_363, mw_364, mw_365, mw_5, mw_366, ⟨by decide +kernel, by decide +kernel, by decide +kernel⟩⟩
theorem cv_X9_177 : pv_cv RX9 177 yX9_ticketOf cX9_ticketOf 8 (some .int) 3 := ⟨mw_370, mw_371, mw_372, mw_5, mw_373, ⟨by decide +kernel, by decide +kernel, by decide +kernel⟩⟩
theorem cv_X9_180 : pv_cv RX9 180 yX9_holds cX9_holds 2 (some .int) 1 := ⟨mw_489, mw_490, mw_491, mw_5, mw_492, ⟨by decide +kernel, by decide +kernel, by decide +kernel⟩⟩
theorem cv_X9_183 : pv_cv RX9 183 yX9_unitOf cX9_unitOf 2 (some .int) 1 := ⟨mw_493, mw_494, mw_495, mw_5, mw_496, ⟨by decide +kernel, by decide +kernel, by decide +kernel⟩⟩
theorem cv_X9_186 : pv_cv RX9 186 yX9_gain cX9_gain 4 (some .int) 3 := ⟨mw_485, mw_486, mw_487, mw_5, mw_488, ⟨by decide +kernel, by decide +kernel, by decide +kernel⟩⟩
theorem cv_X9_189 : pv_cv RX9 189 yX9_approves cX9_approves 7 (some .boolean) 4 := ⟨mw_481, mw_482, mw_483, mw_5, mw_484, ⟨by decide +kernel, by decide +kernel, by decide +kernel⟩⟩
theorem cv_X9_193 : pv_cv RX9 193 yX9_choice cX9_choice 7 (some .int) 3 := ⟨mw_497, mw_498, mw_499, mw_5, mw_500, ⟨by decide +kernel, by decide +kernel, by decide +kernel⟩⟩
theorem cv_X9_196 : pv_cv RX9 196 yX9_counts cX9_counts 8 none 4 := ⟨mw_477, mw_478, mw_479, mw_5, mw_480, ⟨by decide +kernel, by decide +kernel, by decide +kernel⟩⟩
theorem cv_X9_200 : pv_cv RX9 200 yX9_mostAt cX9_mostAt 6 (some .int) 2 := ⟨mw_501, mw_502, mw_503, mw_5, mw_504, ⟨by decide +kernel, by decide +kernel, by decide +kernel⟩⟩
theorem cv_X9_203 : pv_cv RX9 203 yX9_lives cX9_lives 5 none 1 := ⟨mw_473, mw_474, mw_475, mw_5, mw_476, ⟨by decide +kernel, by decide +kernel, by decide +kernel⟩⟩
theorem cv_X9_207 : pv_cv RX9 207 yX9_livesNow cX9_livesNow 1 none 0 := ⟨mw_469, mw_470, mw_471, mw_5, mw_472, ⟨by decide +kernel, by decide +kernel, by decide +kernel⟩⟩
theorem cv_X9_210 : pv_cv RX9 210 yX9_greatOf cX9_greatOf 4 (some .int) 2 := ⟨mw_517, mw_518, mw_519, mw_5, mw_520, ⟨by decide +kernel, by decide +kernel, by decide +kernel⟩⟩
theorem cv_X9_213 : pv_cv RX9 213 yX9_splitNow cX9_splitNow 3 (some .int) 0 := ⟨mw_541, mw_542, mw_543, mw_5, mw_544, ⟨by decide +kernel, by decide +kernel, by decide +kernel⟩⟩
theorem cv_X9_220 : pv_cv RX9 220 yX9_paysBy cX9_paysBy 3 (some .int) 2 := ⟨mw_584, mw_585, mw_586, mw_5, mw_587, ⟨by decide +kernel, by decide +kernel, by decide +kernel⟩⟩
theorem cv_X9_223 : pv_cv RX9 223 yX9_pays cX9_pays 2 (some .int) 1 := ⟨mw_580, mw_581, mw_582, mw_5, mw_583, ⟨by decide +kernel, by decide +kernel, by decide +kernel⟩⟩
theorem cv_X9_226 : pv_cv RX9 226 yX9_moneyOf cX9_moneyOf 5 (some .int) 2 := ⟨mw_576, mw_577, mw_578, mw_5, mw_579, ⟨by decide +kernel, by decide +kernel, by decide +kernel⟩⟩
theorem cv_X9_230 : pv_cv RX9 230 yX9_ruinedOf cX9_ruinedOf 5 (some .int) 1 := ⟨mw_601, mw_602, mw_603, mw_5, mw_604, ⟨by decide +kernel, by decide +kernel, by decide +kernel⟩⟩
theorem cs_X9_233 : pv_cs RX9 233 yX9_amount cX9_amount 1 (some .int) 1 := ⟨mw_617, mw_618, mw_5, mw_619, ⟨by decide +kernel, by decide +kernel, by decide +kernel⟩⟩
theorem cv_X9_236 : pv_cv RX9 236 yX9_worstOf cX9_worstOf 2 (some .int) 1 := ⟨mw_613, mw_614, mw_615, mw_5, mw_616, ⟨by decide +kernel, by decide +kernel, by decide +kernel⟩⟩
theorem cv_X9_239 : pv_cv RX9 239 yX9_mostTold cX9_mostTold 3 (some .int) 0 := ⟨mw_676, mw_677, mw_678, mw_5, mw_679, ⟨by decide +kernel, by decide +kernel, by decide +kernel⟩⟩
theorem cv_X9_242 : pv_cv RX9 242 yX9_six cX9_six 1 (some .int) 0 := ⟨mw_668, mw_669, mw_670, mw_5, mw_671, ⟨by decide +kernel, by decide +kernel, by decide +kernel⟩⟩
theorem cv_X9_245 : pv_cv RX9 245 yX9_chooses cX9_chooses 2 none 0 := ⟨mw_660, mw_661, mw_662, mw_5, mw_663, ⟨by decide +kernel, by decide +kernel, by decide +kernel⟩⟩
theorem cv_X9_248 : pv_cv RX9 248 yX9_isRow cX9_isRow 4 (some .boolean) 1 := ⟨mw_664, mw_665, mw_666, mw_5, mw_667, ⟨by decide +kernel, by decide +kernel, by decide +kernel⟩⟩
theorem cv_X9_251 : pv_cv RX9 251 yX9_isRest cX9_isRest 6 (some .boolean) 0 := ⟨mw_672, mw_673, mw_674, mw_5, mw_675, ⟨by decide +kernel, by decide +kernel, by decide +kernel⟩⟩
theorem cv_X9_257 : pv_cv RX9 257 yX9_restOf cX9_restOf 2 (some .int) 1 := ⟨mw_656, mw_657, mw_658, mw_5, mw_659, ⟨by decide +kernel, by decide +kernel, by decide +kernel⟩⟩
theorem cv_X9_260 : pv_cv RX9 260 yX9_restsNow cX9_restsNow 3 (some .int) 0 := ⟨mw_707, mw_708, mw_709, mw_5, mw_710, ⟨by decide +kernel, by decide +kernel, by decide +kernel⟩⟩
theorem cv_X9_263 : pv_cv RX9 263 yX9_gainBy cX9_gainBy 7 (some .int) 4 := ⟨mw_754, mw_755, mw_756, mw_5, mw_757, ⟨by decide +kernel, by decide +kernel, by decide +kernel⟩⟩
theorem cv_X9_267 : pv_cv RX9 267 yX9_isElectedBy cX9_isElectedBy 5 (some .boolean) 2 := ⟨mw_750, mw_751, mw_752, mw_5, mw_753, ⟨by decide +kernel, by decide +kernel, by decide +kernel⟩⟩
theorem cv_X9_271 : pv_cv RX9 271 yX9_findWish cX9_findWish 7 none 1 := ⟨mw_746, mw_747, mw_748, mw_5, mw_749, ⟨by decide +kernel, by decide +kernel, by decide +kernel⟩⟩
theorem cv_X9_274 : pv_cv RX9 274 yX9_isHedged cX9_isHedged 9 (some .boolean) 4 := ⟨mw_783, mw_784, mw_785, mw_5, mw_786, ⟨by decide +kernel, by decide +kernel, by decide +kernel⟩⟩
theorem cv_X9_277 : pv_cv RX9 277 yX9_hedgeOf cX9_hedgeOf 8 (some .int) 1 := ⟨mw_779, mw_780, mw_781, mw_5, mw_782, ⟨by decide +kernel, by decide +kernel, by decide +kernel⟩⟩
theorem cs_X9_280 : pv_cs RX9 280 yX9_common cX9_common 10 (some .long) 2 := ⟨mw_846, mw_847, mw_5, mw_848, ⟨by decide +kernel, by decide +kernel, by decide +kernel⟩⟩
theorem cs_X9_287 : pv_cs RX9 287 yX9_isIn cX9_isIn 2 (some .boolean) 2 := ⟨mw_839, mw_840, mw_5, mw_841, ⟨by decide +kernel, by decide +kernel, by decide +kernel⟩⟩
theorem cv_X9_290 : pv_cv RX9 290 yX9_joins cX9_joins 14 none 4 := ⟨mw_842, mw_843, mw_844, mw_5, mw_845, ⟨by decide +kernel, by decide +kernel, by decide +kernel⟩⟩
theorem cv_X9_294 : pv_cv RX9 294 yX9_finds cX9_finds 8 (some .boolean) 1 := ⟨mw_834, mw_835, mw_836, mw_5, mw_837, ⟨by decide +kernel, by decide +kernel, by decide +kernel⟩⟩
theorem cs_X9_297 : pv_cs RX9 297 yX9_no cX9_no 1 (some .long) 1 := ⟨mw_849, mw_850, mw_5, mw_851, ⟨by decide +kernel, by decide +kernel, by decide +kernel⟩⟩
theorem cv_X9_303 : pv_cv RX9 303 yX9_worthOf cX9_worthOf 8 (some .long) 3 := ⟨mw_830, mw_831, mw_832, mw_5, mw_833, ⟨by decide +kernel, by decide +kernel, by decide +kernel⟩⟩
theorem cs_X9_307 : pv_cs RX9 307 yX9_ones cX9_ones 3 (some .int) 1 := ⟨mw_888, mw_889, mw_5, mw_890, ⟨by decide +kernel, by decide +kernel, by decide +kernel⟩⟩
theorem cv_X9_310 : pv_cv RX9 310 yX9_dropNow cX9_dropNow 4 (some .int) 0 := ⟨mw_884, mw_885, mw_886, mw_5, mw_887, ⟨by decide +kernel, by decide +kernel, by decide +kernel⟩⟩
theorem cs_X9_313 : pv_cs RX9 313 yX9_digit cX9_digit 3 (some .int) 3 := ⟨mw_946, mw_947, mw_5, mw_948, ⟨by decide +kernel, by decide +kernel, by decide +kernel⟩⟩
theorem cs_X9_325 : pv_cs RX9 325 yX9_isTour cX9_isTour 6 (some .boolean) 2 := ⟨mw_949, mw_950, mw_5, mw_951, ⟨by decide +kernel, by decide +kernel, by decide +kernel⟩⟩
theorem cv_X9_330 : pv_cv RX9 330 yX9_findRound cX9_findRound 7 none 0 := ⟨mw_939, mw_940, mw_941, mw_5, mw_942, ⟨by decide +kernel, by decide +kernel, by decide +kernel⟩⟩
theorem cv_X9_333 : pv_cv RX9 333 yX9_tellsRound cX9_tellsRound 3 (some .int) 1 := ⟨mw_952, mw_953, mw_954, mw_5, mw_955, ⟨by decide +kernel, by decide +kernel, by decide +kernel⟩⟩
theorem cv_X9_339 : pv_cv RX9 339 yX9_yearsNow cX9_yearsNow 5 (some .int) 0 := ⟨mw_972, mw_973, mw_974, mw_5, mw_975, ⟨by decide +kernel, by decide +kernel, by decide +kernel⟩⟩
theorem cv_X9_342 : pv_cv RX9 342 yX9_purse cX9_purse 4 (some .int) 2 := ⟨mw_1082, mw_420, mw_421, mw_5, mw_422, ⟨by decide +kernel, by decide +kernel, by decide +kernel⟩⟩
theorem cv_X9_349 : pv_cv RX9 349 yX9_count cX9_count 2 (some .int) 1 := ⟨mw_1151, mw_1097, mw_1098, mw_5, mw_1099, ⟨by decide +kernel, by decide +kernel, by decide +kernel⟩⟩
theorem cv_X9_352 : pv_cv RX9 352 yX9_hedge cX9_hedge 2 (some .int) 1 := ⟨mw_1152, mw_776, mw_777, mw_5, mw_778, ⟨by decide +kernel, by decide +kernel, by decide +kernel⟩⟩
theorem cv_X9_355 : pv_cv RX9 355 yX9_rest cX9_rest 2 (some .int) 1 := ⟨mw_1153, mw_652, mw_653, mw_5, mw_654, ⟨by decide +kernel, by decide +kernel, by decide +kernel⟩⟩
theorem cv_X9_358 : pv_cv RX9 358 yX9_worth cX9_worth 4 (some .long) 3 := ⟨mw_1154, mw_826, mw_827, mw_5, mw_828, ⟨by decide +kernel, by decide +kernel, by decide +kernel⟩⟩
theorem cv_X9_361 : pv_cv RX9 361 yX9_clash cX9_clash 1 (some .int) 0 := ⟨mw_1155, mw_858, mw_859, mw_5, mw_860, ⟨by decide +kernel, by decide +kernel, by decide +kernel⟩⟩
theorem cn_X0_94 : pv_cn RX0 94 yX8_greatest cX8_greatest 6 (some .int) 4 "PoundVotes" := ⟨List.mem_of_getElem? (i := 0) rfl, mw_328, mw_2, mw_329, ⟨by decide +kernel, by decide +kernel, by decide +kernel⟩⟩
theorem cn_X1_68 : pv_cn RX1 68 yX8_greatest cX8_greatest 6 (some .int) 4 "PoundVotes" := ⟨List.mem_of_getElem? (i := 1) rfl, mw_328, mw_2, mw_329, ⟨by decide +kernel, by decide +kernel, by decide +kernel⟩⟩
theorem cn_X4_29 : pv_cn RX4 29 yX8_isWithin cX8_isWithin 3 (some .boolean) 3 "PoundVotes" := ⟨List.mem_of_getElem? (i := 2) rfl, mw_172, mw_2, mw_173, ⟨by decide +kernel, by decide +kernel, by decide +kernel⟩⟩
theorem cn_X6_37 : pv_cn RX6 37 yX8_isWithin cX8_isWithin 3 (some .boolean) 3 "PoundVotes" := ⟨List.mem_of_getElem? (i := 3) rfl, mw_172, mw_2, mw_173, ⟨by decide +kernel, by decide +kernel, by decide +kernel⟩⟩
theorem cn_X6_48 : pv_cn RX6 48 yX8_commonDivisor cX8_commonDivisor 11 (some .long) 2 "PoundVotes" := ⟨List.mem_of_getElem? (i := 4) rfl, mw_818, mw_2, mw_819, ⟨by decide +kernel, by decide +kernel, by decide +kernel⟩⟩
theorem cn_X7_22 : pv_cn RX7 22 yX8_isWithin cX8_isWithin 3 (some .boolean) 3 "PoundVotes" := ⟨List.mem_of_getElem? (i := 5) rfl, mw_172, mw_2, mw_173, ⟨by decide +kernel, by decide +kernel, by decide +kernel⟩⟩
theorem cn_X7_61 : pv_cn RX7 61 yX8_commonDivisor cX8_commonDivisor 11 (some .long) 2 "PoundVotes" := ⟨List.mem_of_getElem? (i := 6) rfl, mw_818, mw_2, mw_819, ⟨by decide +kernel, by decide +kernel, by decide +kernel⟩⟩
theorem ci_m1 : Int32.ofInt (-1) = (-1) := by decide
theorem ci_0 : Int32.ofInt (0) = 0 := by decide
theorem ci_1 : Int32.ofInt (1) = 1 := by decide
theorem ci_2 : Int32.ofInt (2) = 2 := by decide
theorem ci_3 : Int32.ofInt (3) = 3 := by decide
theorem ci_4 : Int32.ofInt (4) = 4 := by decide
theorem ci_5 : Int32.ofInt (5) = 5 := by decide
abbrev pv_FU : Nat := 5000
end
