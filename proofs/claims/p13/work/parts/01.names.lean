-- ===== PART A: goes FIRST, ahead of the names: the tables' words, and 'selects' of the private methods out of them =====
/-- a private method of a class that the tables say can be made, by its rows of tables_1 -/
def lw_okq (q : MethodName × Nat) : Prop := (q.1.cls ≠ "java/lang/invoke/MethodHandle" ∧ q.1.cls ≠ "java/lang/invoke/VarHandle") ∧ Cond.instantiable q.1.cls q.2 ∈ tables_1 ∧ Cond.privateMethod q.1 ∈ tables_1 ∧ Cond.instanceMethod q.1 ∈ tables_1
theorem lw_p0 : lw_okq (⟨"ProofCourt", "take", "(LProofCourt$Formula;)V"⟩, 4) := ⟨⟨by decide +kernel, by decide +kernel⟩, List.mem_of_getElem? (i := 16) (by decide +kernel), List.mem_of_getElem? (i := 162) (by decide +kernel), List.mem_of_getElem? (i := 163) (by decide +kernel)⟩
theorem lw_p1 : lw_okq (⟨"ProofCourt$Text", "standBehind", "(I)V"⟩, 6) := ⟨⟨by decide +kernel, by decide +kernel⟩, List.mem_of_getElem? (i := 24) (by decide +kernel), List.mem_of_getElem? (i := 216) (by decide +kernel), List.mem_of_getElem? (i := 217) (by decide +kernel)⟩
theorem lw_p2 : lw_okq (⟨"ProofCourt$Text", "isRemark", "()Z"⟩, 6) := ⟨⟨by decide +kernel, by decide +kernel⟩, List.mem_of_getElem? (i := 24) (by decide +kernel), List.mem_of_getElem? (i := 223) (by decide +kernel), List.mem_of_getElem? (i := 224) (by decide +kernel)⟩
theorem lw_p3 : lw_okq (⟨"ProofCourt$Text", "beginsLine", "()Z"⟩, 6) := ⟨⟨by decide +kernel, by decide +kernel⟩, List.mem_of_getElem? (i := 24) (by decide +kernel), List.mem_of_getElem? (i := 280) (by decide +kernel), List.mem_of_getElem? (i := 281) (by decide +kernel)⟩
theorem lw_p4 : lw_okq (⟨"ProofCourt$Text", "lineEnd", "()I"⟩, 6) := ⟨⟨by decide +kernel, by decide +kernel⟩, List.mem_of_getElem? (i := 24) (by decide +kernel), List.mem_of_getElem? (i := 284) (by decide +kernel), List.mem_of_getElem? (i := 285) (by decide +kernel)⟩
theorem lw_p5 : lw_okq (⟨"ProofCourt$Formula", "takesClauses", "(LProofCourt$Text;I)Z"⟩, 4) := ⟨⟨by decide +kernel, by decide +kernel⟩, List.mem_of_getElem? (i := 135) (by decide +kernel), List.mem_of_getElem? (i := 304) (by decide +kernel), List.mem_of_getElem? (i := 305) (by decide +kernel)⟩
theorem lw_p6 : lw_okq (⟨"ProofCourt$Clause", "accept", "(I)Z"⟩, 4) := ⟨⟨by decide +kernel, by decide +kernel⟩, List.mem_of_getElem? (i := 311) (by decide +kernel), List.mem_of_getElem? (i := 342) (by decide +kernel), List.mem_of_getElem? (i := 343) (by decide +kernel)⟩
theorem lw_p7 : lw_okq (⟨"ProofCourt$Search", "propagate", "()I"⟩, 15) := ⟨⟨by decide +kernel, by decide +kernel⟩, List.mem_of_getElem? (i := 79) (by decide +kernel), List.mem_of_getElem? (i := 382) (by decide +kernel), List.mem_of_getElem? (i := 383) (by decide +kernel)⟩
theorem lw_p8 : lw_okq (⟨"ProofCourt$Search", "assume", "(II)V"⟩, 15) := ⟨⟨by decide +kernel, by decide +kernel⟩, List.mem_of_getElem? (i := 79) (by decide +kernel), List.mem_of_getElem? (i := 399) (by decide +kernel), List.mem_of_getElem? (i := 400) (by decide +kernel)⟩
theorem lw_p9 : lw_okq (⟨"ProofCourt$Search", "resolve", "(I)V"⟩, 15) := ⟨⟨by decide +kernel, by decide +kernel⟩, List.mem_of_getElem? (i := 79) (by decide +kernel), List.mem_of_getElem? (i := 403) (by decide +kernel), List.mem_of_getElem? (i := 404) (by decide +kernel)⟩
theorem lw_p10 : lw_okq (⟨"ProofCourt$Search", "learn", "(I)I"⟩, 15) := ⟨⟨by decide +kernel, by decide +kernel⟩, List.mem_of_getElem? (i := 79) (by decide +kernel), List.mem_of_getElem? (i := 407) (by decide +kernel), List.mem_of_getElem? (i := 408) (by decide +kernel)⟩
theorem lw_p11 : lw_okq (⟨"ProofCourt$Search", "isKept", "(II)Z"⟩, 15) := ⟨⟨by decide +kernel, by decide +kernel⟩, List.mem_of_getElem? (i := 79) (by decide +kernel), List.mem_of_getElem? (i := 412) (by decide +kernel), List.mem_of_getElem? (i := 413) (by decide +kernel)⟩
theorem lw_p12 : lw_okq (⟨"ProofCourt$Search", "stepHolds", "(I)Z"⟩, 15) := ⟨⟨by decide +kernel, by decide +kernel⟩, List.mem_of_getElem? (i := 79) (by decide +kernel), List.mem_of_getElem? (i := 416) (by decide +kernel), List.mem_of_getElem? (i := 417) (by decide +kernel)⟩
theorem lw_p13 : lw_okq (⟨"ProofCourt$Search", "jumpBack", "(I)V"⟩, 15) := ⟨⟨by decide +kernel, by decide +kernel⟩, List.mem_of_getElem? (i := 79) (by decide +kernel), List.mem_of_getElem? (i := 420) (by decide +kernel), List.mem_of_getElem? (i := 421) (by decide +kernel)⟩
theorem lw_p14 : lw_okq (⟨"ProofCourt$Search", "decide", "()V"⟩, 15) := ⟨⟨by decide +kernel, by decide +kernel⟩, List.mem_of_getElem? (i := 79) (by decide +kernel), List.mem_of_getElem? (i := 425) (by decide +kernel), List.mem_of_getElem? (i := 426) (by decide +kernel)⟩
theorem lw_p15 : lw_okq (⟨"ProofCourt$Formula", "isSatisfied", "(I)Z"⟩, 4) := ⟨⟨by decide +kernel, by decide +kernel⟩, List.mem_of_getElem? (i := 135) (by decide +kernel), List.mem_of_getElem? (i := 443) (by decide +kernel), List.mem_of_getElem? (i := 444) (by decide +kernel)⟩
def lw_privs_1 : List (MethodName × Nat) := [(⟨"ProofCourt", "take", "(LProofCourt$Formula;)V"⟩, 4), (⟨"ProofCourt$Text", "standBehind", "(I)V"⟩, 6), (⟨"ProofCourt$Text", "isRemark", "()Z"⟩, 6), (⟨"ProofCourt$Text", "beginsLine", "()Z"⟩, 6), (⟨"ProofCourt$Text", "lineEnd", "()I"⟩, 6), (⟨"ProofCourt$Formula", "takesClauses", "(LProofCourt$Text;I)Z"⟩, 4), (⟨"ProofCourt$Clause", "accept", "(I)Z"⟩, 4), (⟨"ProofCourt$Search", "propagate", "()I"⟩, 15), (⟨"ProofCourt$Search", "assume", "(II)V"⟩, 15), (⟨"ProofCourt$Search", "resolve", "(I)V"⟩, 15), (⟨"ProofCourt$Search", "learn", "(I)I"⟩, 15), (⟨"ProofCourt$Search", "isKept", "(II)Z"⟩, 15), (⟨"ProofCourt$Search", "stepHolds", "(I)Z"⟩, 15), (⟨"ProofCourt$Search", "jumpBack", "(I)V"⟩, 15), (⟨"ProofCourt$Search", "decide", "()V"⟩, 15), (⟨"ProofCourt$Formula", "isSatisfied", "(I)Z"⟩, 4)]
theorem lw_r1 : ∀ q ∈ lw_privs_1, lw_okq q := List.forall_mem_cons.mpr ⟨lw_p0, List.forall_mem_cons.mpr ⟨lw_p1, List.forall_mem_cons.mpr ⟨lw_p2, List.forall_mem_cons.mpr ⟨lw_p3, List.forall_mem_cons.mpr ⟨lw_p4, List.forall_mem_cons.mpr ⟨lw_p5, List.forall_mem_cons.mpr ⟨lw_p6, List.forall_mem_cons.mpr ⟨lw_p7, List.forall_mem_cons.mpr ⟨lw_p8, List.forall_mem_cons.mpr ⟨lw_p9, List.forall_mem_cons.mpr ⟨lw_p10, List.forall_mem_cons.mpr ⟨lw_p11, List.forall_mem_cons.mpr ⟨lw_p12, List.forall_mem_cons.mpr ⟨lw_p13, List.forall_mem_cons.mpr ⟨lw_p14, List.forall_mem_cons.mpr ⟨lw_p15, fun _ h => absurd h List.not_mem_nil⟩⟩⟩⟩⟩⟩⟩⟩⟩⟩⟩⟩⟩⟩⟩⟩
theorem lw_p16 : lw_okq (⟨"ProofCourt", "isLiteralOrNone", "(I)Z"⟩, 4) := ⟨⟨by decide +kernel, by decide +kernel⟩, List.mem_of_getElem? (i := 16) (by decide +kernel), List.mem_of_getElem? (i := 451) (by decide +kernel), List.mem_of_getElem? (i := 452) (by decide +kernel)⟩
theorem lw_p17 : lw_okq (⟨"ProofCourt$Line", "takesNamed", "(LProofCourt$Text;I)Z"⟩, 4) := ⟨⟨by decide +kernel, by decide +kernel⟩, List.mem_of_getElem? (i := 469) (by decide +kernel), List.mem_of_getElem? (i := 498) (by decide +kernel), List.mem_of_getElem? (i := 499) (by decide +kernel)⟩
theorem lw_p18 : lw_okq (⟨"ProofCourt$Line", "takesClause", "(LProofCourt$Text;I)Z"⟩, 4) := ⟨⟨by decide +kernel, by decide +kernel⟩, List.mem_of_getElem? (i := 469) (by decide +kernel), List.mem_of_getElem? (i := 504) (by decide +kernel), List.mem_of_getElem? (i := 505) (by decide +kernel)⟩
theorem lw_p19 : lw_okq (⟨"ProofCourt$Check", "followHints", "()I"⟩, 4) := ⟨⟨by decide +kernel, by decide +kernel⟩, List.mem_of_getElem? (i := 523) (by decide +kernel), List.mem_of_getElem? (i := 547) (by decide +kernel), List.mem_of_getElem? (i := 548) (by decide +kernel)⟩
theorem lw_p20 : lw_okq (⟨"ProofCourt$Check", "groupsHold", "()Z"⟩, 4) := ⟨⟨by decide +kernel, by decide +kernel⟩, List.mem_of_getElem? (i := 523) (by decide +kernel), List.mem_of_getElem? (i := 553) (by decide +kernel), List.mem_of_getElem? (i := 554) (by decide +kernel)⟩
theorem lw_p21 : lw_okq (⟨"ProofCourt$Check", "skipHints", "()V"⟩, 4) := ⟨⟨by decide +kernel, by decide +kernel⟩, List.mem_of_getElem? (i := 523) (by decide +kernel), List.mem_of_getElem? (i := 558) (by decide +kernel), List.mem_of_getElem? (i := 559) (by decide +kernel)⟩
theorem lw_p22 : lw_okq (⟨"ProofCourtModel", "cut", "(Z)V"⟩, 21) := ⟨⟨by decide +kernel, by decide +kernel⟩, List.mem_of_getElem? (i := 570) (by decide +kernel), List.mem_of_getElem? (i := 652) (by decide +kernel), List.mem_of_getElem? (i := 653) (by decide +kernel)⟩
theorem lw_p23 : lw_okq (⟨"ProofCourtModel", "isGap", "(I)Z"⟩, 21) := ⟨⟨by decide +kernel, by decide +kernel⟩, List.mem_of_getElem? (i := 570) (by decide +kernel), List.mem_of_getElem? (i := 656) (by decide +kernel), List.mem_of_getElem? (i := 657) (by decide +kernel)⟩
theorem lw_p24 : lw_okq (⟨"ProofCourtModel", "expect", "(III)V"⟩, 21) := ⟨⟨by decide +kernel, by decide +kernel⟩, List.mem_of_getElem? (i := 570) (by decide +kernel), List.mem_of_getElem? (i := 660) (by decide +kernel), List.mem_of_getElem? (i := 661) (by decide +kernel)⟩
theorem lw_p25 : lw_okq (⟨"ProofCourtModel", "isWord", "(III)Z"⟩, 21) := ⟨⟨by decide +kernel, by decide +kernel⟩, List.mem_of_getElem? (i := 570) (by decide +kernel), List.mem_of_getElem? (i := 664) (by decide +kernel), List.mem_of_getElem? (i := 665) (by decide +kernel)⟩
theorem lw_p26 : lw_okq (⟨"ProofCourtModel", "fail", "()V"⟩, 21) := ⟨⟨by decide +kernel, by decide +kernel⟩, List.mem_of_getElem? (i := 570) (by decide +kernel), List.mem_of_getElem? (i := 668) (by decide +kernel), List.mem_of_getElem? (i := 669) (by decide +kernel)⟩
theorem lw_p27 : lw_okq (⟨"ProofCourtModel", "take", "(II)I"⟩, 21) := ⟨⟨by decide +kernel, by decide +kernel⟩, List.mem_of_getElem? (i := 570) (by decide +kernel), List.mem_of_getElem? (i := 672) (by decide +kernel), List.mem_of_getElem? (i := 673) (by decide +kernel)⟩
theorem lw_p28 : lw_okq (⟨"ProofCourtModel", "isNumber", "(II)Z"⟩, 21) := ⟨⟨by decide +kernel, by decide +kernel⟩, List.mem_of_getElem? (i := 570) (by decide +kernel), List.mem_of_getElem? (i := 676) (by decide +kernel), List.mem_of_getElem? (i := 677) (by decide +kernel)⟩
theorem lw_p29 : lw_okq (⟨"ProofCourtModel", "worth", "()I"⟩, 21) := ⟨⟨by decide +kernel, by decide +kernel⟩, List.mem_of_getElem? (i := 570) (by decide +kernel), List.mem_of_getElem? (i := 680) (by decide +kernel), List.mem_of_getElem? (i := 681) (by decide +kernel)⟩
theorem lw_p30 : lw_okq (⟨"ProofCourtModel", "readClause", "(II)V"⟩, 21) := ⟨⟨by decide +kernel, by decide +kernel⟩, List.mem_of_getElem? (i := 570) (by decide +kernel), List.mem_of_getElem? (i := 684) (by decide +kernel), List.mem_of_getElem? (i := 685) (by decide +kernel)⟩
theorem lw_p31 : lw_okq (⟨"ProofCourtModel", "hasLiteral", "(II)Z"⟩, 21) := ⟨⟨by decide +kernel, by decide +kernel⟩, List.mem_of_getElem? (i := 570) (by decide +kernel), List.mem_of_getElem? (i := 688) (by decide +kernel), List.mem_of_getElem? (i := 689) (by decide +kernel)⟩
def lw_privs_2 : List (MethodName × Nat) := [(⟨"ProofCourt", "isLiteralOrNone", "(I)Z"⟩, 4), (⟨"ProofCourt$Line", "takesNamed", "(LProofCourt$Text;I)Z"⟩, 4), (⟨"ProofCourt$Line", "takesClause", "(LProofCourt$Text;I)Z"⟩, 4), (⟨"ProofCourt$Check", "followHints", "()I"⟩, 4), (⟨"ProofCourt$Check", "groupsHold", "()Z"⟩, 4), (⟨"ProofCourt$Check", "skipHints", "()V"⟩, 4), (⟨"ProofCourtModel", "cut", "(Z)V"⟩, 21), (⟨"ProofCourtModel", "isGap", "(I)Z"⟩, 21), (⟨"ProofCourtModel", "expect", "(III)V"⟩, 21), (⟨"ProofCourtModel", "isWord", "(III)Z"⟩, 21), (⟨"ProofCourtModel", "fail", "()V"⟩, 21), (⟨"ProofCourtModel", "take", "(II)I"⟩, 21), (⟨"ProofCourtModel", "isNumber", "(II)Z"⟩, 21), (⟨"ProofCourtModel", "worth", "()I"⟩, 21), (⟨"ProofCourtModel", "readClause", "(II)V"⟩, 21), (⟨"ProofCourtModel", "hasLiteral", "(II)Z"⟩, 21)]
theorem lw_r2 : ∀ q ∈ lw_privs_2, lw_okq q := List.forall_mem_cons.mpr ⟨lw_p16, List.forall_mem_cons.mpr ⟨lw_p17, List.forall_mem_cons.mpr ⟨lw_p18, List.forall_mem_cons.mpr ⟨lw_p19, List.forall_mem_cons.mpr ⟨lw_p20, List.forall_mem_cons.mpr ⟨lw_p21, List.forall_mem_cons.mpr ⟨lw_p22, List.forall_mem_cons.mpr ⟨lw_p23, List.forall_mem_cons.mpr ⟨lw_p24, List.forall_mem_cons.mpr ⟨lw_p25, List.forall_mem_cons.mpr ⟨lw_p26, List.forall_mem_cons.mpr ⟨lw_p27, List.forall_mem_cons.mpr ⟨lw_p28, List.forall_mem_cons.mpr ⟨lw_p29, List.forall_mem_cons.mpr ⟨lw_p30, List.forall_mem_cons.mpr ⟨lw_p31, fun _ h => absurd h List.not_mem_nil⟩⟩⟩⟩⟩⟩⟩⟩⟩⟩⟩⟩⟩⟩⟩⟩
theorem lw_p32 : lw_okq (⟨"ProofCourtModel", "literalOf", "(II)I"⟩, 21) := ⟨⟨by decide +kernel, by decide +kernel⟩, List.mem_of_getElem? (i := 570) (by decide +kernel), List.mem_of_getElem? (i := 692) (by decide +kernel), List.mem_of_getElem? (i := 693) (by decide +kernel)⟩
theorem lw_p33 : lw_okq (⟨"ProofCourtModel", "copy", "(II)V"⟩, 21) := ⟨⟨by decide +kernel, by decide +kernel⟩, List.mem_of_getElem? (i := 570) (by decide +kernel), List.mem_of_getElem? (i := 696) (by decide +kernel), List.mem_of_getElem? (i := 697) (by decide +kernel)⟩
theorem lw_p34 : lw_okq (⟨"ProofCourtModel", "find", "(I)I"⟩, 21) := ⟨⟨by decide +kernel, by decide +kernel⟩, List.mem_of_getElem? (i := 570) (by decide +kernel), List.mem_of_getElem? (i := 712) (by decide +kernel), List.mem_of_getElem? (i := 713) (by decide +kernel)⟩
theorem lw_p35 : lw_okq (⟨"ProofCourtModel", "least", "()I"⟩, 21) := ⟨⟨by decide +kernel, by decide +kernel⟩, List.mem_of_getElem? (i := 570) (by decide +kernel), List.mem_of_getElem? (i := 720) (by decide +kernel), List.mem_of_getElem? (i := 721) (by decide +kernel)⟩
theorem lw_p36 : lw_okq (⟨"ProofCourtModel", "satisfies", "(I)Z"⟩, 21) := ⟨⟨by decide +kernel, by decide +kernel⟩, List.mem_of_getElem? (i := 570) (by decide +kernel), List.mem_of_getElem? (i := 724) (by decide +kernel), List.mem_of_getElem? (i := 725) (by decide +kernel)⟩
theorem lw_p37 : lw_okq (⟨"ProofCourtModel", "isTrue", "(II)Z"⟩, 21) := ⟨⟨by decide +kernel, by decide +kernel⟩, List.mem_of_getElem? (i := 570) (by decide +kernel), List.mem_of_getElem? (i := 728) (by decide +kernel), List.mem_of_getElem? (i := 729) (by decide +kernel)⟩
theorem lw_p38 : lw_okq (⟨"ProofCourtModel", "forget", "()V"⟩, 21) := ⟨⟨by decide +kernel, by decide +kernel⟩, List.mem_of_getElem? (i := 570) (by decide +kernel), List.mem_of_getElem? (i := 748) (by decide +kernel), List.mem_of_getElem? (i := 749) (by decide +kernel)⟩
theorem lw_p39 : lw_okq (⟨"ProofCourtModel", "told", "(I)I"⟩, 21) := ⟨⟨by decide +kernel, by decide +kernel⟩, List.mem_of_getElem? (i := 570) (by decide +kernel), List.mem_of_getElem? (i := 752) (by decide +kernel), List.mem_of_getElem? (i := 753) (by decide +kernel)⟩
theorem lw_p40 : lw_okq (⟨"ProofCourtModel", "readHints", "(I)V"⟩, 21) := ⟨⟨by decide +kernel, by decide +kernel⟩, List.mem_of_getElem? (i := 570) (by decide +kernel), List.mem_of_getElem? (i := 760) (by decide +kernel), List.mem_of_getElem? (i := 761) (by decide +kernel)⟩
theorem lw_p41 : lw_okq (⟨"ProofCourtModel", "delete", "()I"⟩, 21) := ⟨⟨by decide +kernel, by decide +kernel⟩, List.mem_of_getElem? (i := 570) (by decide +kernel), List.mem_of_getElem? (i := 764) (by decide +kernel), List.mem_of_getElem? (i := 765) (by decide +kernel)⟩
theorem lw_p42 : lw_okq (⟨"ProofCourtModel", "add", "(I)I"⟩, 21) := ⟨⟨by decide +kernel, by decide +kernel⟩, List.mem_of_getElem? (i := 570) (by decide +kernel), List.mem_of_getElem? (i := 768) (by decide +kernel), List.mem_of_getElem? (i := 769) (by decide +kernel)⟩
theorem lw_p43 : lw_okq (⟨"ProofCourtModel", "holds", "()Z"⟩, 21) := ⟨⟨by decide +kernel, by decide +kernel⟩, List.mem_of_getElem? (i := 570) (by decide +kernel), List.mem_of_getElem? (i := 772) (by decide +kernel), List.mem_of_getElem? (i := 773) (by decide +kernel)⟩
theorem lw_p44 : lw_okq (⟨"ProofCourtModel", "follow", "()I"⟩, 21) := ⟨⟨by decide +kernel, by decide +kernel⟩, List.mem_of_getElem? (i := 570) (by decide +kernel), List.mem_of_getElem? (i := 776) (by decide +kernel), List.mem_of_getElem? (i := 777) (by decide +kernel)⟩
theorem lw_p45 : lw_okq (⟨"ProofCourtModel", "groupsHold", "(I)Z"⟩, 21) := ⟨⟨by decide +kernel, by decide +kernel⟩, List.mem_of_getElem? (i := 570) (by decide +kernel), List.mem_of_getElem? (i := 780) (by decide +kernel), List.mem_of_getElem? (i := 781) (by decide +kernel)⟩
theorem lw_p46 : lw_okq (⟨"ProofCourtModel", "suppose", "(II)Z"⟩, 21) := ⟨⟨by decide +kernel, by decide +kernel⟩, List.mem_of_getElem? (i := 570) (by decide +kernel), List.mem_of_getElem? (i := 784) (by decide +kernel), List.mem_of_getElem? (i := 785) (by decide +kernel)⟩
def lw_privs_3 : List (MethodName × Nat) := [(⟨"ProofCourtModel", "literalOf", "(II)I"⟩, 21), (⟨"ProofCourtModel", "copy", "(II)V"⟩, 21), (⟨"ProofCourtModel", "find", "(I)I"⟩, 21), (⟨"ProofCourtModel", "least", "()I"⟩, 21), (⟨"ProofCourtModel", "satisfies", "(I)Z"⟩, 21), (⟨"ProofCourtModel", "isTrue", "(II)Z"⟩, 21), (⟨"ProofCourtModel", "forget", "()V"⟩, 21), (⟨"ProofCourtModel", "told", "(I)I"⟩, 21), (⟨"ProofCourtModel", "readHints", "(I)V"⟩, 21), (⟨"ProofCourtModel", "delete", "()I"⟩, 21), (⟨"ProofCourtModel", "add", "(I)I"⟩, 21), (⟨"ProofCourtModel", "holds", "()Z"⟩, 21), (⟨"ProofCourtModel", "follow", "()I"⟩, 21), (⟨"ProofCourtModel", "groupsHold", "(I)Z"⟩, 21), (⟨"ProofCourtModel", "suppose", "(II)Z"⟩, 21)]
theorem lw_r3 : ∀ q ∈ lw_privs_3, lw_okq q := List.forall_mem_cons.mpr ⟨lw_p32, List.forall_mem_cons.mpr ⟨lw_p33, List.forall_mem_cons.mpr ⟨lw_p34, List.forall_mem_cons.mpr ⟨lw_p35, List.forall_mem_cons.mpr ⟨lw_p36, List.forall_mem_cons.mpr ⟨lw_p37, List.forall_mem_cons.mpr ⟨lw_p38, List.forall_mem_cons.mpr ⟨lw_p39, List.forall_mem_cons.mpr ⟨lw_p40, List.forall_mem_cons.mpr ⟨lw_p41, List.forall_mem_cons.mpr ⟨lw_p42, List.forall_mem_cons.mpr ⟨lw_p43, List.forall_mem_cons.mpr ⟨lw_p44, List.forall_mem_cons.mpr ⟨lw_p45, List.forall_mem_cons.mpr ⟨lw_p46, fun _ h => absurd h List.not_mem_nil⟩⟩⟩⟩⟩⟩⟩⟩⟩⟩⟩⟩⟩⟩⟩
def lw_privs : List (MethodName × Nat) := lw_privs_1 ++ (lw_privs_2 ++ (lw_privs_3))
def lw_tbl : List Cond := k2_sels lw_privs ++ tables_1
theorem lw_privs_ok : ∀ q ∈ lw_privs, lw_okq q := by
  show ∀ q ∈ lw_privs_1 ++ (lw_privs_2 ++ (lw_privs_3)), lw_okq q
  exact List.forall_mem_append.mpr ⟨lw_r1, List.forall_mem_append.mpr ⟨lw_r2, lw_r3⟩⟩
-- ===== end of PART A; then your names; then what follows =====
def ft_Te : u_T := fun k => match k with
  | 0 => ("ProofCourt$Text", "characters", "[C", true)
  | 1 => ("ProofCourt$Text", "length", "I", false)
  | 2 => ("ProofCourt$Text", "skipsRemarks", "Z", false)
  | 3 => ("ProofCourt$Text", "start", "I", false)
  | 4 => ("ProofCourt$Text", "end", "I", false)
  | _ => ("ProofCourt$Text", "number", "I", false)
def fy_Te : Nat → FieldType := fun k => match k with
  | 0 => .array .char
  | 1 => .int
  | 2 => .boolean
  | 3 => .int
  | 4 => .int
  | _ => .int
theorem fn_Te : ∀ a, a < 6 → ∀ b, b < 6 → a ≠ b → (ft_Te a).2.1 ≠ (ft_Te b).2.1 := by decide +kernel
theorem fz_Te : ∀ k, k < 6 → parseFieldDescriptor (ft_Te k).2.2.1 = some (fy_Te k) := by decide +kernel
def ft_Pr : u_T := fun k => match k with
  | 0 => ("ProofCourt$Proof", "clauses", "[LProofCourt$Clause;", true)
  | 1 => ("ProofCourt$Proof", "size", "I", false)
  | 2 => ("ProofCourt$Proof", "highest", "I", false)
  | _ => ("ProofCourt$Proof", "addedEmpty", "Z", false)
def fy_Pr : Nat → FieldType := fun k => match k with
  | 0 => .array (.object "ProofCourt$Clause")
  | 1 => .int
  | 2 => .int
  | _ => .boolean
theorem fn_Pr : ∀ a, a < 4 → ∀ b, b < 4 → a ≠ b → (ft_Pr a).2.1 ≠ (ft_Pr b).2.1 := by decide +kernel
theorem fz_Pr : ∀ k, k < 4 → parseFieldDescriptor (ft_Pr k).2.2.1 = some (fy_Pr k) := by decide +kernel
def ft_Se : u_T := fun k => match k with
  | 0 => ("ProofCourt$Search", "clauses", "[I", true)
  | 1 => ("ProofCourt$Search", "size", "I", false)
  | 2 => ("ProofCourt$Search", "variables", "I", false)
  | 3 => ("ProofCourt$Search", "finished", "Z", false)
  | 4 => ("ProofCourt$Search", "satisfied", "Z", false)
  | 5 => ("ProofCourt$Search", "reachedEmpty", "Z", false)
  | 6 => ("ProofCourt$Search", "stepsHold", "Z", false)
  | 7 => ("ProofCourt$Search", "known", "I", false)
  | 8 => ("ProofCourt$Search", "trail", "[I", true)
  | 9 => ("ProofCourt$Search", "reasons", "[I", true)
  | 10 => ("ProofCourt$Search", "trailSize", "I", false)
  | 11 => ("ProofCourt$Search", "knownBefore", "[I", true)
  | 12 => ("ProofCourt$Search", "level", "I", false)
  | 13 => ("ProofCourt$Search", "hints", "[I", true)
  | _ => ("ProofCourt$Search", "hintCount", "I", false)
def fy_Se : Nat → FieldType := fun k => match k with
  | 0 => .array .int
  | 1 => .int
  | 2 => .int
  | 3 => .boolean
  | 4 => .boolean
  | 5 => .boolean
  | 6 => .boolean
  | 7 => .int
  | 8 => .array .int
  | 9 => .array .int
  | 10 => .int
  | 11 => .array .int
  | 12 => .int
  | 13 => .array .int
  | _ => .int
theorem fn_Se : ∀ a, a < 15 → ∀ b, b < 15 → a ≠ b → (ft_Se a).2.1 ≠ (ft_Se b).2.1 := by decide +kernel
theorem fz_Se : ∀ k, k < 15 → parseFieldDescriptor (ft_Se k).2.2.1 = some (fy_Se k) := by decide +kernel
def ft_Fo : u_T := fun k => match k with
  | 0 => ("ProofCourt$Formula", "variables", "I", true)
  | 1 => ("ProofCourt$Formula", "clauses", "[LProofCourt$Clause;", true)
  | 2 => ("ProofCourt$Formula", "size", "I", false)
  | _ => ("ProofCourt$Formula", "counted", "I", false)
def fy_Fo : Nat → FieldType := fun k => match k with
  | 0 => .int
  | 1 => .array (.object "ProofCourt$Clause")
  | 2 => .int
  | _ => .int
theorem fn_Fo : ∀ a, a < 4 → ∀ b, b < 4 → a ≠ b → (ft_Fo a).2.1 ≠ (ft_Fo b).2.1 := by decide +kernel
theorem fz_Fo : ∀ k, k < 4 → parseFieldDescriptor (ft_Fo k).2.2.1 = some (fy_Fo k) := by decide +kernel
def ft_Co : u_T := fun k => match k with
  | 0 => ("ProofCourt", "text", "LProofCourt$Text;", true)
  | 1 => ("ProofCourt", "proof", "LProofCourt$Proof;", true)
  | 2 => ("ProofCourt", "search", "LProofCourt$Search;", true)
  | _ => ("ProofCourt", "formula", "LProofCourt$Formula;", false)
def fy_Co : Nat → FieldType := fun k => match k with
  | 0 => .object "ProofCourt$Text"
  | 1 => .object "ProofCourt$Proof"
  | 2 => .object "ProofCourt$Search"
  | _ => .object "ProofCourt$Formula"
theorem fn_Co : ∀ a, a < 4 → ∀ b, b < 4 → a ≠ b → (ft_Co a).2.1 ≠ (ft_Co b).2.1 := by decide +kernel
theorem fz_Co : ∀ k, k < 4 → parseFieldDescriptor (ft_Co k).2.2.1 = some (fy_Co k) := by decide +kernel
def ft_Cl : u_T := fun k => match k with
  | 0 => ("ProofCourt$Clause", "number", "I", true)
  | 1 => ("ProofCourt$Clause", "literals", "[I", true)
  | 2 => ("ProofCourt$Clause", "size", "I", false)
  | _ => ("ProofCourt$Clause", "mask", "I", false)
def fy_Cl : Nat → FieldType := fun k => match k with
  | 0 => .int
  | 1 => .array .int
  | 2 => .int
  | _ => .int
theorem fn_Cl : ∀ a, a < 4 → ∀ b, b < 4 → a ≠ b → (ft_Cl a).2.1 ≠ (ft_Cl b).2.1 := by decide +kernel
theorem fz_Cl : ∀ k, k < 4 → parseFieldDescriptor (ft_Cl k).2.2.1 = some (fy_Cl k) := by decide +kernel
def ft_Li : u_T := fun k => match k with
  | 0 => ("ProofCourt$Line", "number", "I", true)
  | 1 => ("ProofCourt$Line", "clause", "LProofCourt$Clause;", false)
  | 2 => ("ProofCourt$Line", "named", "[I", true)
  | _ => ("ProofCourt$Line", "size", "I", false)
def fy_Li : Nat → FieldType := fun k => match k with
  | 0 => .int
  | 1 => .object "ProofCourt$Clause"
  | 2 => .array .int
  | _ => .int
theorem fn_Li : ∀ a, a < 4 → ∀ b, b < 4 → a ≠ b → (ft_Li a).2.1 ≠ (ft_Li b).2.1 := by decide +kernel
theorem fz_Li : ∀ k, k < 4 → parseFieldDescriptor (ft_Li k).2.2.1 = some (fy_Li k) := by decide +kernel
def ft_Ck : u_T := fun k => match k with
  | 0 => ("ProofCourt$Check", "proof", "LProofCourt$Proof;", true)
  | 1 => ("ProofCourt$Check", "step", "LProofCourt$Line;", true)
  | 2 => ("ProofCourt$Check", "known", "I", false)
  | _ => ("ProofCourt$Check", "place", "I", false)
def fy_Ck : Nat → FieldType := fun k => match k with
  | 0 => .object "ProofCourt$Proof"
  | 1 => .object "ProofCourt$Line"
  | 2 => .int
  | _ => .int
theorem fn_Ck : ∀ a, a < 4 → ∀ b, b < 4 → a ≠ b → (ft_Ck a).2.1 ≠ (ft_Ck b).2.1 := by decide +kernel
theorem fz_Ck : ∀ k, k < 4 → parseFieldDescriptor (ft_Ck k).2.2.1 = some (fy_Ck k) := by decide +kernel
def ft_Mo : u_T := fun k => match k with
  | 0 => ("ProofCourtModel", "chars", "[I", true)
  | 1 => ("ProofCourtModel", "typed", "I", false)
  | 2 => ("ProofCourtModel", "words", "I", false)
  | 3 => ("ProofCourtModel", "begins", "[I", true)
  | 4 => ("ProofCourtModel", "ends", "[I", true)
  | 5 => ("ProofCourtModel", "next", "I", false)
  | 6 => ("ProofCourtModel", "size", "I", false)
  | 7 => ("ProofCourtModel", "fault", "I", false)
  | 8 => ("ProofCourtModel", "variables", "I", false)
  | 9 => ("ProofCourtModel", "many", "[I", true)
  | 10 => ("ProofCourtModel", "literals", "[I", true)
  | 11 => ("ProofCourtModel", "number", "[I", true)
  | 12 => ("ProofCourtModel", "clauses", "I", false)
  | 13 => ("ProofCourtModel", "lives", "I", false)
  | 14 => ("ProofCourtModel", "highest", "I", false)
  | 15 => ("ProofCourtModel", "empty", "Z", false)
  | 16 => ("ProofCourtModel", "hints", "I", false)
  | 17 => ("ProofCourtModel", "hint", "[I", true)
  | 18 => ("ProofCourtModel", "known", "[Z", true)
  | 19 => ("ProofCourtModel", "before", "[Z", true)
  | _ => ("ProofCourtModel", "place", "I", false)
def fy_Mo : Nat → FieldType := fun k => match k with
  | 0 => .array .int
  | 1 => .int
  | 2 => .int
  | 3 => .array .int
  | 4 => .array .int
  | 5 => .int
  | 6 => .int
  | 7 => .int
  | 8 => .int
  | 9 => .array .int
  | 10 => .array .int
  | 11 => .array .int
  | 12 => .int
  | 13 => .int
  | 14 => .int
  | 15 => .boolean
  | 16 => .int
  | 17 => .array .int
  | 18 => .array .boolean
  | 19 => .array .boolean
  | _ => .int
theorem fn_Mo : ∀ a, a < 21 → ∀ b, b < 21 → a ≠ b → (ft_Mo a).2.1 ≠ (ft_Mo b).2.1 := by decide +kernel
theorem fz_Mo : ∀ k, k < 21 → parseFieldDescriptor (ft_Mo k).2.2.1 = some (fy_Mo k) := by decide +kernel
abbrev vwCl : List vw_C := [("ProofCourt$Text", ft_Te, 6), ("ProofCourt$Proof", ft_Pr, 4), ("ProofCourt$Search", ft_Se, 15), ("ProofCourt$Formula", ft_Fo, 4), ("ProofCourt", ft_Co, 4), ("ProofCourt$Clause", ft_Cl, 4), ("ProofCourt$Line", ft_Li, 4), ("ProofCourt$Check", ft_Ck, 4), ("ProofCourtModel", ft_Mo, 21)]
def hw_all : List Cond := lw_tbl.filter goodWord
theorem hw_in {i : Nat} {w : Cond} (h : lw_tbl[i]? = some w) (hg : goodWord w = true) : w ∈ hw_all := List.mem_filter.mpr ⟨List.mem_of_getElem? h, hg⟩
theorem hw_inl (ws : List Cond) (ps : List Nat) (hp : ws = ps.filterMap (fun i => lw_tbl[i]?)) (hg : ws.all goodWord = true) : ∀ w ∈ ws, w ∈ hw_all := by
  intro w hw
  have h1 := List.all_eq_true.mp hg w hw
  rw [hp] at hw
  obtain ⟨i, -, hi⟩ := List.mem_filterMap.mp hw
  exact hw_in hi h1
theorem hw_all_good {w : Cond} (h : w ∈ hw_all) : (w.onTables && w.keeps) = true ∨ ∃ ty, w = .arrayClass ty := good_of_word (List.mem_filter.mp h).2
theorem hw_gL {w0 : Cond} (ws : List Cond) (h : ∀ w ∈ ws, w ∈ hw_all) : GoodIn (w0 :: hw_all) ws := fun w hw => ⟨List.mem_cons_of_mem _ (h w hw), hw_all_good (h w hw)⟩
theorem hw_g0 {w0 w1 : Cond} (h : w1 ∈ hw_all) : GoodIn (w0 :: hw_all) (w1 :: hw_all) := hw_gL _ (fun w hw => (List.mem_cons.mp hw).elim (fun e => e ▸ h) id)
theorem hw_gV {w0 w1 : Cond} {own C : String} {index : Nat} {y : MethodName} (h1 : Cond.methodLink own index y ∈ hw_all) (h2 : Cond.instanceMethod y ∈ hw_all) (h3 : Cond.selects C y y ∈ hw_all) (h4 : Cond.initialized C ∈ hw_all) (h5 : w1 ∈ hw_all) : GoodIn (w0 :: hw_all) (wsV own index C y (w1 :: hw_all)) := by
  refine hw_gL _ (fun w hw => ?_)
  unfold wsV at hw
  simp only [List.cons_append, List.nil_append, List.mem_cons] at hw
  rcases hw with rfl | rfl | rfl | rfl | rfl | hw <;> assumption
theorem hw_gS {w0 w1 : Cond} {own : String} {index : Nat} {y : MethodName} (h1 : Cond.methodLink own index y ∈ hw_all) (h2 : Cond.static y ∈ hw_all) (h4 : Cond.initialized y.cls ∈ hw_all) (h5 : w1 ∈ hw_all) : GoodIn (w0 :: hw_all) (va_wsS own index y (w1 :: hw_all)) := by
  refine hw_gL _ (fun w hw => ?_)
  unfold va_wsS at hw
  simp only [List.cons_append, List.nil_append, List.mem_cons] at hw
  rcases hw with rfl | rfl | rfl | rfl | hw <;> assumption
def hw_nest : List Cond := [Cond.methodLinkNest "ProofCourt" 11 ⟨"ProofCourt$Text", "<init>", "()V"⟩ "ProofCourt", Cond.fieldLinkNest "ProofCourt" 47 "ProofCourt$Text" "start" "I" "ProofCourt", Cond.fieldLinkNest "ProofCourt$Line" 29 "ProofCourt$Text" "number" "I" "ProofCourt", Cond.fieldLinkNest "ProofCourt$Clause" 28 "ProofCourt$Text" "number" "I" "ProofCourt", Cond.fieldLinkNest "ProofCourt$Formula" 42 "ProofCourt$Text" "number" "I" "ProofCourt", Cond.methodLinkNest "ProofCourt" 18 ⟨"ProofCourt$Proof", "<init>", "()V"⟩ "ProofCourt", Cond.fieldLinkNest "ProofCourt$Check" 74 "ProofCourt$Proof" "clauses" "[LProofCourt$Clause;" "ProofCourt", Cond.fieldLinkNest "ProofCourt$Check" 73 "ProofCourt$Proof" "size" "I" "ProofCourt", Cond.fieldLinkNest "ProofCourt" 64 "ProofCourt$Proof" "size" "I" "ProofCourt", Cond.fieldLinkNest "ProofCourt" 120 "ProofCourt$Proof" "addedEmpty" "Z" "ProofCourt", Cond.methodLinkNest "ProofCourt" 25 ⟨"ProofCourt$Search", "<init>", "()V"⟩ "ProofCourt", Cond.fieldLinkNest "ProofCourt" 124 "ProofCourt$Search" "reachedEmpty" "Z" "ProofCourt", Cond.fieldLinkNest "ProofCourt" 127 "ProofCourt$Search" "stepsHold" "Z" "ProofCourt", Cond.fieldLinkNest "ProofCourt" 80 "ProofCourt$Search" "known" "I" "ProofCourt", Cond.fieldLinkNest "ProofCourt$Search" 42 "ProofCourt$Formula" "variables" "I" "ProofCourt", Cond.fieldLinkNest "ProofCourt" 61 "ProofCourt$Formula" "variables" "I" "ProofCourt", Cond.fieldLinkNest "ProofCourt$Proof" 23 "ProofCourt$Formula" "clauses" "[LProofCourt$Clause;" "ProofCourt", Cond.fieldLinkNest "ProofCourt$Search" 34 "ProofCourt$Formula" "clauses" "[LProofCourt$Clause;" "ProofCourt", Cond.fieldLinkNest "ProofCourt$Search" 27 "ProofCourt$Formula" "size" "I" "ProofCourt", Cond.fieldLinkNest "ProofCourt$Proof" 17 "ProofCourt$Formula" "size" "I" "ProofCourt", Cond.fieldLinkNest "ProofCourt" 54 "ProofCourt$Formula" "size" "I" "ProofCourt", Cond.fieldLinkNest "ProofCourt$Proof" 32 "ProofCourt$Clause" "number" "I" "ProofCourt", Cond.fieldLinkNest "ProofCourt$Check" 78 "ProofCourt$Clause" "number" "I" "ProofCourt", Cond.fieldLinkNest "ProofCourt$Check" 67 "ProofCourt$Clause" "literals" "[I" "ProofCourt", Cond.fieldLinkNest "ProofCourt" 72 "ProofCourt$Clause" "literals" "[I" "ProofCourt", Cond.fieldLinkNest "ProofCourt$Check" 42 "ProofCourt$Clause" "size" "I" "ProofCourt", Cond.fieldLinkNest "ProofCourt$Proof" 64 "ProofCourt$Clause" "size" "I" "ProofCourt", Cond.fieldLinkNest "ProofCourt" 69 "ProofCourt$Clause" "size" "I" "ProofCourt", Cond.fieldLinkNest "ProofCourt$Check" 25 "ProofCourt$Clause" "mask" "I" "ProofCourt", Cond.fieldLinkNest "ProofCourt$Search" 37 "ProofCourt$Clause" "mask" "I" "ProofCourt", Cond.fieldLinkNest "ProofCourt$Formula" 67 "ProofCourt$Clause" "mask" "I" "ProofCourt", Cond.methodLinkNest "ProofCourt$Clause" 39 ⟨"ProofCourt", "bit", "(I)I"⟩ "ProofCourt", Cond.methodLinkNest "ProofCourt$Search" 79 ⟨"ProofCourt", "follow", "(II)I"⟩ "ProofCourt", Cond.methodLinkNest "ProofCourt$Search" 104 ⟨"ProofCourt", "opposites", "(I)I"⟩ "ProofCourt", Cond.methodLinkNest "ProofCourt$Search" 87 ⟨"ProofCourt", "bit", "(I)I"⟩ "ProofCourt", Cond.methodLinkNest "ProofCourt$Formula" 70 ⟨"ProofCourt", "follow", "(II)I"⟩ "ProofCourt", Cond.fieldLinkNest "ProofCourt$Proof" 50 "ProofCourt$Line" "number" "I" "ProofCourt", Cond.fieldLinkNest "ProofCourt$Check" 19 "ProofCourt$Line" "clause" "LProofCourt$Clause;" "ProofCourt", Cond.fieldLinkNest "ProofCourt$Proof" 60 "ProofCourt$Line" "clause" "LProofCourt$Clause;" "ProofCourt", Cond.fieldLinkNest "ProofCourt" 109 "ProofCourt$Line" "clause" "LProofCourt$Clause;" "ProofCourt", Cond.fieldLinkNest "ProofCourt$Check" 53 "ProofCourt$Line" "named" "[I" "ProofCourt", Cond.fieldLinkNest "ProofCourt$Proof" 38 "ProofCourt$Line" "named" "[I" "ProofCourt", Cond.fieldLinkNest "ProofCourt$Check" 52 "ProofCourt$Line" "size" "I" "ProofCourt", Cond.fieldLinkNest "ProofCourt$Proof" 35 "ProofCourt$Line" "size" "I" "ProofCourt", Cond.methodLinkNest "ProofCourt$Check" 31 ⟨"ProofCourt", "opposites", "(I)I"⟩ "ProofCourt", Cond.methodLinkNest "ProofCourt$Check" 63 ⟨"ProofCourt", "follow", "(II)I"⟩ "ProofCourt", Cond.methodLinkNest "ProofCourt$Check" 70 ⟨"ProofCourt", "bit", "(I)I"⟩ "ProofCourt"]
theorem hw_nest_at (j : Nat) {w : Cond} (h : hw_nest[j]? = some w) : w ∈ hw_nest := List.mem_of_getElem? h
def hw_sN : Nat := 4
def hw_sLen : List Nat := [1, 1, 3, 1]
def hw_sByt : List (List Int32) := [[99], [112], [99, 110, 102], [100]]
def hw_sR : List (String × Nat × String × Nat) := [("ProofCourt$Text", 75, "c", 0), ("ProofCourt$Formula", 30, "p", 1), ("ProofCourt$Formula", 36, "cnf", 2), ("ProofCourt$Line", 33, "d", 3)]
theorem hw_sR_at (j : Nat) {x : String × Nat × String × Nat} (h : hw_sR[j]? = some x) : x ∈ hw_sR := List.mem_of_getElem? h
abbrev cb_Co_init : ByteArray := prog_1_method_1_code
def ym_Co_init : MethodName := ⟨"ProofCourt", "<init>", "()V"⟩
abbrev mw_Co_init : List Cond := .code ym_Co_init cb_Co_init 1 none :: hw_all
abbrev cb_Te_init : ByteArray := prog_8_method_1_code
def ym_Te_init : MethodName := ⟨"ProofCourt$Text", "<init>", "()V"⟩
abbrev mw_Te_init : List Cond := .code ym_Te_init cb_Te_init 1 none :: hw_all
abbrev cb_Pr_init : ByteArray := prog_6_method_1_code
def ym_Pr_init : MethodName := ⟨"ProofCourt$Proof", "<init>", "()V"⟩
abbrev mw_Pr_init : List Cond := .code ym_Pr_init cb_Pr_init 1 none :: hw_all
abbrev cb_Se_init : ByteArray := prog_7_method_1_code
def ym_Se_init : MethodName := ⟨"ProofCourt$Search", "<init>", "()V"⟩
abbrev mw_Se_init : List Cond := .code ym_Se_init cb_Se_init 1 none :: hw_all
abbrev cb_Fo_init : ByteArray := prog_4_method_1_code
def ym_Fo_init : MethodName := ⟨"ProofCourt$Formula", "<init>", "(I)V"⟩
abbrev mw_Fo_init : List Cond := .code ym_Fo_init cb_Fo_init 2 none :: hw_all
abbrev cb_Co_take : ByteArray := prog_1_method_14_code
def ym_Co_take : MethodName := ⟨"ProofCourt", "take", "(LProofCourt$Formula;)V"⟩
abbrev mw_Co_take : List Cond := .code ym_Co_take cb_Co_take 2 none :: hw_all
abbrev cb_Pr_begin : ByteArray := prog_6_method_2_code
def ym_Pr_begin : MethodName := ⟨"ProofCourt$Proof", "begin", "(LProofCourt$Formula;)V"⟩
abbrev mw_Pr_begin : List Cond := .code ym_Pr_begin cb_Pr_begin 3 none :: hw_all
abbrev cb_Se_begin : ByteArray := prog_7_method_2_code
def ym_Se_begin : MethodName := ⟨"ProofCourt$Search", "begin", "(LProofCourt$Formula;)V"⟩
abbrev mw_Se_begin : List Cond := .code ym_Se_begin cb_Se_begin 3 none :: hw_all
abbrev cb_Co_type : ByteArray := prog_1_method_2_code
def ym_Co_type : MethodName := ⟨"ProofCourt", "type", "(II)Z"⟩
abbrev mw_Co_type : List Cond := .code ym_Co_type cb_Co_type 3 (some .boolean) :: hw_all
abbrev cb_Te_append : ByteArray := prog_8_method_2_code
def ym_Te_append : MethodName := ⟨"ProofCourt$Text", "append", "(II)Z"⟩
abbrev mw_Te_append : List Cond := .code ym_Te_append cb_Te_append 4 (some .boolean) :: hw_all
abbrev cb_Te_byteOf : ByteArray := prog_8_method_15_code
def ym_Te_byteOf : MethodName := ⟨"ProofCourt$Text", "byteOf", "(II)I"⟩
abbrev mw_Te_byteOf : List Cond := .code ym_Te_byteOf cb_Te_byteOf 2 (some .int) :: hw_all
abbrev cb_Te_isCharacter : ByteArray := prog_8_method_16_code
def ym_Te_isCharacter : MethodName := ⟨"ProofCourt$Text", "isCharacter", "(I)Z"⟩
abbrev mw_Te_isCharacter : List Cond := .code ym_Te_isCharacter cb_Te_isCharacter 1 (some .boolean) :: hw_all
abbrev cb_Co_read : ByteArray := prog_1_method_3_code
def ym_Co_read : MethodName := ⟨"ProofCourt", "read", "()I"⟩
abbrev mw_Co_read : List Cond := .code ym_Co_read cb_Co_read 3 (some .int) :: hw_all
abbrev cb_Fo_formulaIn : ByteArray := prog_4_method_2_code
def ym_Fo_formulaIn : MethodName := ⟨"ProofCourt$Formula", "formulaIn", "(LProofCourt$Text;)LProofCourt$Formula;"⟩
abbrev mw_Fo_formulaIn : List Cond := .code ym_Fo_formulaIn cb_Fo_formulaIn 2 (some (.object "ProofCourt$Formula")) :: hw_all
abbrev cb_Te_rewind : ByteArray := prog_8_method_4_code
def ym_Te_rewind : MethodName := ⟨"ProofCourt$Text", "rewind", "(Z)V"⟩
abbrev mw_Te_rewind : List Cond := .code ym_Te_rewind cb_Te_rewind 2 none :: hw_all
abbrev cb_Te_advance : ByteArray := prog_8_method_5_code
def ym_Te_advance : MethodName := ⟨"ProofCourt$Text", "advance", "()V"⟩
abbrev mw_Te_advance : List Cond := .code ym_Te_advance cb_Te_advance 2 none :: hw_all
abbrev cb_Te_standBehind : ByteArray := prog_8_method_11_code
def ym_Te_standBehind : MethodName := ⟨"ProofCourt$Text", "standBehind", "(I)V"⟩
abbrev mw_Te_standBehind : List Cond := .code ym_Te_standBehind cb_Te_standBehind 2 none :: hw_all
abbrev cb_Te_isBlank : ByteArray := prog_8_method_17_code
def ym_Te_isBlank : MethodName := ⟨"ProofCourt$Text", "isBlank", "(C)Z"⟩
abbrev mw_Te_isBlank : List Cond := .code ym_Te_isBlank cb_Te_isBlank 1 (some .boolean) :: hw_all
abbrev cb_Te_isRemark : ByteArray := prog_8_method_12_code
def ym_Te_isRemark : MethodName := ⟨"ProofCourt$Text", "isRemark", "()Z"⟩
abbrev mw_Te_isRemark : List Cond := .code ym_Te_isRemark cb_Te_isRemark 1 (some .boolean) :: hw_all
abbrev cb_Te_isWord : ByteArray := prog_8_method_7_code
def ym_Te_isWord : MethodName := ⟨"ProofCourt$Text", "isWord", "(Ljava/lang/String;)Z"⟩
abbrev mw_Te_isWord : List Cond := .code ym_Te_isWord cb_Te_isWord 3 (some .boolean) :: hw_all
abbrev cb_St_length : ByteArray := prog_12_method_54_code
def ym_St_length : MethodName := ⟨"java/lang/String", "length", "()I"⟩
abbrev mw_St_length : List Cond := .code ym_St_length cb_St_length 1 (some .int) :: hw_all
abbrev cb_St_coder : ByteArray := prog_12_method_152_code
def ym_St_coder : MethodName := ⟨"java/lang/String", "coder", "()B"⟩
abbrev mw_St_coder : List Cond := .code ym_St_coder cb_St_coder 1 (some .byte) :: hw_all
abbrev cb_St_charAt : ByteArray := prog_12_method_56_code
def ym_St_charAt : MethodName := ⟨"java/lang/String", "charAt", "(I)C"⟩
abbrev mw_St_charAt : List Cond := .code ym_St_charAt cb_St_charAt 2 (some .char) :: hw_all
abbrev cb_St_isLatin1 : ByteArray := prog_12_method_154_code
def ym_St_isLatin1 : MethodName := ⟨"java/lang/String", "isLatin1", "()Z"⟩
abbrev mw_St_isLatin1 : List Cond := .code ym_St_isLatin1 cb_St_isLatin1 1 (some .boolean) :: hw_all
abbrev cb_Sl_charAt : ByteArray := prog_13_method_2_code
def ym_Sl_charAt : MethodName := ⟨"java/lang/StringLatin1", "charAt", "([BI)C"⟩
abbrev mw_Sl_charAt : List Cond := .code ym_Sl_charAt cb_Sl_charAt 2 (some .char) :: hw_all
abbrev cb_St_checkIndex : ByteArray := prog_12_method_155_code
def ym_St_checkIndex : MethodName := ⟨"java/lang/String", "checkIndex", "(II)V"⟩
abbrev mw_St_checkIndex : List Cond := .code ym_St_checkIndex cb_St_checkIndex 2 none :: hw_all
abbrev cb_Pc_checkIndex : ByteArray := prog_15_method_11_code
def ym_Pc_checkIndex : MethodName := ⟨"jdk/internal/util/Preconditions", "checkIndex", "(IILjava/util/function/BiFunction;)I"⟩
abbrev mw_Pc_checkIndex : List Cond := .code ym_Pc_checkIndex cb_Pc_checkIndex 3 (some .int) :: hw_all
abbrev cb_Su_charAt : ByteArray := prog_14_method_83_code
def ym_Su_charAt : MethodName := ⟨"java/lang/StringUTF16", "charAt", "([BI)C"⟩
abbrev mw_Su_charAt : List Cond := .code ym_Su_charAt cb_Su_charAt 2 (some .char) :: hw_all
abbrev cb_Su_checkIndex : ByteArray := prog_14_method_91_code
def ym_Su_checkIndex : MethodName := ⟨"java/lang/StringUTF16", "checkIndex", "(I[B)V"⟩
abbrev mw_Su_checkIndex : List Cond := .code ym_Su_checkIndex cb_Su_checkIndex 2 none :: hw_all
abbrev cb_Su_length : ByteArray := prog_14_method_6_code
def ym_Su_length : MethodName := ⟨"java/lang/StringUTF16", "length", "([B)I"⟩
abbrev mw_Su_length : List Cond := .code ym_Su_length cb_Su_length 1 (some .int) :: hw_all
abbrev cb_Su_getChar : ByteArray := prog_14_method_5_code
def ym_Su_getChar : MethodName := ⟨"java/lang/StringUTF16", "getChar", "([BI)C"⟩
abbrev mw_Su_getChar : List Cond := .code ym_Su_getChar cb_Su_getChar 2 (some .char) :: hw_all
abbrev cb_Te_beginsLine : ByteArray := prog_8_method_13_code
def ym_Te_beginsLine : MethodName := ⟨"ProofCourt$Text", "beginsLine", "()Z"⟩
abbrev mw_Te_beginsLine : List Cond := .code ym_Te_beginsLine cb_Te_beginsLine 2 (some .boolean) :: hw_all
abbrev cb_Te_lineEnd : ByteArray := prog_8_method_14_code
def ym_Te_lineEnd : MethodName := ⟨"ProofCourt$Text", "lineEnd", "()I"⟩
abbrev mw_Te_lineEnd : List Cond := .code ym_Te_lineEnd cb_Te_lineEnd 2 (some .int) :: hw_all
abbrev cb_Te_passesWord : ByteArray := prog_8_method_9_code
def ym_Te_passesWord : MethodName := ⟨"ProofCourt$Text", "passesWord", "(Ljava/lang/String;)Z"⟩
abbrev mw_Te_passesWord : List Cond := .code ym_Te_passesWord cb_Te_passesWord 2 (some .boolean) :: hw_all
abbrev cb_Te_passesNumber : ByteArray := prog_8_method_10_code
def ym_Te_passesNumber : MethodName := ⟨"ProofCourt$Text", "passesNumber", "(II)Z"⟩
abbrev mw_Te_passesNumber : List Cond := .code ym_Te_passesNumber cb_Te_passesNumber 3 (some .boolean) :: hw_all
abbrev cb_Te_isNumber : ByteArray := prog_8_method_8_code
def ym_Te_isNumber : MethodName := ⟨"ProofCourt$Text", "isNumber", "(II)Z"⟩
abbrev mw_Te_isNumber : List Cond := .code ym_Te_isNumber cb_Te_isNumber 7 (some .boolean) :: hw_all
abbrev cb_Fo_takesClauses : ByteArray := prog_4_method_3_code
def ym_Fo_takesClauses : MethodName := ⟨"ProofCourt$Formula", "takesClauses", "(LProofCourt$Text;I)Z"⟩
abbrev mw_Fo_takesClauses : List Cond := .code ym_Fo_takesClauses cb_Fo_takesClauses 5 (some .boolean) :: hw_all
abbrev cb_Cl_clauseIn : ByteArray := prog_3_method_2_code
def ym_Cl_clauseIn : MethodName := ⟨"ProofCourt$Clause", "clauseIn", "(LProofCourt$Text;II)LProofCourt$Clause;"⟩
abbrev mw_Cl_clauseIn : List Cond := .code ym_Cl_clauseIn cb_Cl_clauseIn 6 (some (.object "ProofCourt$Clause")) :: hw_all
abbrev cb_Cl_init : ByteArray := prog_3_method_1_code
def ym_Cl_init : MethodName := ⟨"ProofCourt$Clause", "<init>", "(I)V"⟩
abbrev mw_Cl_init : List Cond := .code ym_Cl_init cb_Cl_init 2 none :: hw_all
abbrev cb_Cl_accept : ByteArray := prog_3_method_3_code
def ym_Cl_accept : MethodName := ⟨"ProofCourt$Clause", "accept", "(I)Z"⟩
abbrev mw_Cl_accept : List Cond := .code ym_Cl_accept cb_Cl_accept 2 (some .boolean) :: hw_all
abbrev cb_Co_bit : ByteArray := prog_1_method_16_code
def ym_Co_bit : MethodName := ⟨"ProofCourt", "bit", "(I)I"⟩
abbrev mw_Co_bit : List Cond := .code ym_Co_bit cb_Co_bit 1 (some .int) :: hw_all
abbrev cb_Te_isAtEnd : ByteArray := prog_8_method_6_code
def ym_Te_isAtEnd : MethodName := ⟨"ProofCourt$Text", "isAtEnd", "()Z"⟩
abbrev mw_Te_isAtEnd : List Cond := .code ym_Te_isAtEnd cb_Te_isAtEnd 1 (some .boolean) :: hw_all
abbrev cb_Te_clear : ByteArray := prog_8_method_3_code
def ym_Te_clear : MethodName := ⟨"ProofCourt$Text", "clear", "()V"⟩
abbrev mw_Te_clear : List Cond := .code ym_Te_clear cb_Te_clear 1 none :: hw_all
abbrev cb_Co_variables : ByteArray := prog_1_method_4_code
def ym_Co_variables : MethodName := ⟨"ProofCourt", "variables", "()I"⟩
abbrev mw_Co_variables : List Cond := .code ym_Co_variables cb_Co_variables 1 (some .int) :: hw_all
abbrev cb_Co_live : ByteArray := prog_1_method_5_code
def ym_Co_live : MethodName := ⟨"ProofCourt", "live", "()I"⟩
abbrev mw_Co_live : List Cond := .code ym_Co_live cb_Co_live 1 (some .int) :: hw_all
abbrev cb_Co_literal : ByteArray := prog_1_method_6_code
def ym_Co_literal : MethodName := ⟨"ProofCourt", "literal", "(II)I"⟩
abbrev mw_Co_literal : List Cond := .code ym_Co_literal cb_Co_literal 4 (some .int) :: hw_all
abbrev cb_Pr_find : ByteArray := prog_6_method_3_code
def ym_Pr_find : MethodName := ⟨"ProofCourt$Proof", "find", "(I)LProofCourt$Clause;"⟩
abbrev mw_Pr_find : List Cond := .code ym_Pr_find cb_Pr_find 3 (some (.object "ProofCourt$Clause")) :: hw_all
abbrev cb_Co_solve : ByteArray := prog_1_method_7_code
def ym_Co_solve : MethodName := ⟨"ProofCourt", "solve", "()I"⟩
abbrev mw_Co_solve : List Cond := .code ym_Co_solve cb_Co_solve 1 (some .int) :: hw_all
abbrev cb_Se_finds : ByteArray := prog_7_method_3_code
def ym_Se_finds : MethodName := ⟨"ProofCourt$Search", "finds", "()Z"⟩
abbrev mw_Se_finds : List Cond := .code ym_Se_finds cb_Se_finds 3 (some .boolean) :: hw_all
abbrev cb_Se_propagate : ByteArray := prog_7_method_4_code
def ym_Se_propagate : MethodName := ⟨"ProofCourt$Search", "propagate", "()I"⟩
abbrev mw_Se_propagate : List Cond := .code ym_Se_propagate cb_Se_propagate 5 (some .int) :: hw_all
abbrev cb_Co_follow : ByteArray := prog_1_method_18_code
def ym_Co_follow : MethodName := ⟨"ProofCourt", "follow", "(II)I"⟩
abbrev mw_Co_follow : List Cond := .code ym_Co_follow cb_Co_follow 3 (some .int) :: hw_all
abbrev cb_Co_opposites : ByteArray := prog_1_method_17_code
def ym_Co_opposites : MethodName := ⟨"ProofCourt", "opposites", "(I)I"⟩
abbrev mw_Co_opposites : List Cond := .code ym_Co_opposites cb_Co_opposites 1 (some .int) :: hw_all
abbrev cb_In_bitCount : ByteArray := prog_11_method_49_code
def ym_In_bitCount : MethodName := ⟨"java/lang/Integer", "bitCount", "(I)I"⟩
abbrev mw_In_bitCount : List Cond := .code ym_In_bitCount cb_In_bitCount 1 (some .int) :: hw_all
abbrev cb_Se_assume : ByteArray := prog_7_method_5_code
def ym_Se_assume : MethodName := ⟨"ProofCourt$Search", "assume", "(II)V"⟩
abbrev mw_Se_assume : List Cond := .code ym_Se_assume cb_Se_assume 3 none :: hw_all
abbrev cb_Se_resolve : ByteArray := prog_7_method_7_code
def ym_Se_resolve : MethodName := ⟨"ProofCourt$Search", "resolve", "(I)V"⟩
abbrev mw_Se_resolve : List Cond := .code ym_Se_resolve cb_Se_resolve 3 none :: hw_all
abbrev cb_Se_learn : ByteArray := prog_7_method_8_code
def ym_Se_learn : MethodName := ⟨"ProofCourt$Search", "learn", "(I)I"⟩
abbrev mw_Se_learn : List Cond := .code ym_Se_learn cb_Se_learn 5 (some .int) :: hw_all
abbrev cb_Se_isKept : ByteArray := prog_7_method_9_code
def ym_Se_isKept : MethodName := ⟨"ProofCourt$Search", "isKept", "(II)Z"⟩
abbrev mw_Se_isKept : List Cond := .code ym_Se_isKept cb_Se_isKept 4 (some .boolean) :: hw_all
abbrev cb_Se_stepHolds : ByteArray := prog_7_method_10_code
def ym_Se_stepHolds : MethodName := ⟨"ProofCourt$Search", "stepHolds", "(I)Z"⟩
abbrev mw_Se_stepHolds : List Cond := .code ym_Se_stepHolds cb_Se_stepHolds 5 (some .boolean) :: hw_all
abbrev cb_Se_jumpBack : ByteArray := prog_7_method_11_code
def ym_Se_jumpBack : MethodName := ⟨"ProofCourt$Search", "jumpBack", "(I)V"⟩
abbrev mw_Se_jumpBack : List Cond := .code ym_Se_jumpBack cb_Se_jumpBack 4 none :: hw_all
abbrev cb_Se_decide : ByteArray := prog_7_method_6_code
def ym_Se_decide : MethodName := ⟨"ProofCourt$Search", "decide", "()V"⟩
abbrev mw_Se_decide : List Cond := .code ym_Se_decide cb_Se_decide 2 none :: hw_all
abbrev cb_Co_value : ByteArray := prog_1_method_8_code
def ym_Co_value : MethodName := ⟨"ProofCourt", "value", "(I)I"⟩
abbrev mw_Co_value : List Cond := .code ym_Co_value cb_Co_value 2 (some .int) :: hw_all
abbrev cb_Co_count : ByteArray := prog_1_method_9_code
def ym_Co_count : MethodName := ⟨"ProofCourt", "count", "()I"⟩
abbrev mw_Co_count : List Cond := .code ym_Co_count cb_Co_count 1 (some .int) :: hw_all
abbrev cb_Fo_satisfying : ByteArray := prog_4_method_4_code
def ym_Fo_satisfying : MethodName := ⟨"ProofCourt$Formula", "satisfying", "()I"⟩
abbrev mw_Fo_satisfying : List Cond := .code ym_Fo_satisfying cb_Fo_satisfying 3 (some .int) :: hw_all
abbrev cb_Fo_isSatisfied : ByteArray := prog_4_method_5_code
def ym_Fo_isSatisfied : MethodName := ⟨"ProofCourt$Formula", "isSatisfied", "(I)Z"⟩
abbrev mw_Fo_isSatisfied : List Cond := .code ym_Fo_isSatisfied cb_Fo_isSatisfied 3 (some .boolean) :: hw_all
abbrev cb_Co_forced : ByteArray := prog_1_method_10_code
def ym_Co_forced : MethodName := ⟨"ProofCourt", "forced", "(II)I"⟩
abbrev mw_Co_forced : List Cond := .code ym_Co_forced cb_Co_forced 4 (some .int) :: hw_all
abbrev cb_Co_isLiteralOrNone : ByteArray := prog_1_method_15_code
def ym_Co_isLiteralOrNone : MethodName := ⟨"ProofCourt", "isLiteralOrNone", "(I)Z"⟩
abbrev mw_Co_isLiteralOrNone : List Cond := .code ym_Co_isLiteralOrNone cb_Co_isLiteralOrNone 2 (some .boolean) :: hw_all
abbrev cb_Fo_forcedBy : ByteArray := prog_4_method_6_code
def ym_Fo_forcedBy : MethodName := ⟨"ProofCourt$Formula", "forcedBy", "(I)I"⟩
abbrev mw_Fo_forcedBy : List Cond := .code ym_Fo_forcedBy cb_Fo_forcedBy 7 (some .int) :: hw_all
abbrev cb_Co_line : ByteArray := prog_1_method_11_code
def ym_Co_line : MethodName := ⟨"ProofCourt", "line", "()I"⟩
abbrev mw_Co_line : List Cond := .code ym_Co_line cb_Co_line 3 (some .int) :: hw_all
abbrev cb_Li_lineIn : ByteArray := prog_5_method_2_code
def ym_Li_lineIn : MethodName := ⟨"ProofCourt$Line", "lineIn", "(LProofCourt$Text;I)LProofCourt$Line;"⟩
abbrev mw_Li_lineIn : List Cond := .code ym_Li_lineIn cb_Li_lineIn 4 (some (.object "ProofCourt$Line")) :: hw_all
abbrev cb_Li_init : ByteArray := prog_5_method_1_code
def ym_Li_init : MethodName := ⟨"ProofCourt$Line", "<init>", "(I)V"⟩
abbrev mw_Li_init : List Cond := .code ym_Li_init cb_Li_init 2 none :: hw_all
abbrev cb_Li_takesNamed : ByteArray := prog_5_method_4_code
def ym_Li_takesNamed : MethodName := ⟨"ProofCourt$Line", "takesNamed", "(LProofCourt$Text;I)Z"⟩
abbrev mw_Li_takesNamed : List Cond := .code ym_Li_takesNamed cb_Li_takesNamed 5 (some .boolean) :: hw_all
abbrev cb_Li_takesClause : ByteArray := prog_5_method_3_code
def ym_Li_takesClause : MethodName := ⟨"ProofCourt$Line", "takesClause", "(LProofCourt$Text;I)Z"⟩
abbrev mw_Li_takesClause : List Cond := .code ym_Li_takesClause cb_Li_takesClause 3 (some .boolean) :: hw_all
abbrev cb_Pr_delete : ByteArray := prog_6_method_4_code
def ym_Pr_delete : MethodName := ⟨"ProofCourt$Proof", "delete", "(LProofCourt$Line;)I"⟩
abbrev mw_Pr_delete : List Cond := .code ym_Pr_delete cb_Pr_delete 4 (some .int) :: hw_all
abbrev cb_Li_names : ByteArray := prog_5_method_5_code
def ym_Li_names : MethodName := ⟨"ProofCourt$Line", "names", "(II)Z"⟩
abbrev mw_Li_names : List Cond := .code ym_Li_names cb_Li_names 4 (some .boolean) :: hw_all
abbrev cb_Pr_add : ByteArray := prog_6_method_5_code
def ym_Pr_add : MethodName := ⟨"ProofCourt$Proof", "add", "(LProofCourt$Line;)I"⟩
abbrev mw_Pr_add : List Cond := .code ym_Pr_add cb_Pr_add 3 (some .int) :: hw_all
abbrev cb_Ck_init : ByteArray := prog_2_method_1_code
def ym_Ck_init : MethodName := ⟨"ProofCourt$Check", "<init>", "(LProofCourt$Proof;LProofCourt$Line;)V"⟩
abbrev mw_Ck_init : List Cond := .code ym_Ck_init cb_Ck_init 3 none :: hw_all
abbrev cb_Ck_outcome : ByteArray := prog_2_method_2_code
def ym_Ck_outcome : MethodName := ⟨"ProofCourt$Check", "outcome", "()I"⟩
abbrev mw_Ck_outcome : List Cond := .code ym_Ck_outcome cb_Ck_outcome 3 (some .int) :: hw_all
abbrev cb_Ck_followHints : ByteArray := prog_2_method_3_code
def ym_Ck_followHints : MethodName := ⟨"ProofCourt$Check", "followHints", "()I"⟩
abbrev mw_Ck_followHints : List Cond := .code ym_Ck_followHints cb_Ck_followHints 3 (some .int) :: hw_all
abbrev cb_Ck_groupsHold : ByteArray := prog_2_method_4_code
def ym_Ck_groupsHold : MethodName := ⟨"ProofCourt$Check", "groupsHold", "()Z"⟩
abbrev mw_Ck_groupsHold : List Cond := .code ym_Ck_groupsHold cb_Ck_groupsHold 6 (some .boolean) :: hw_all
abbrev cb_Ck_skipHints : ByteArray := prog_2_method_5_code
def ym_Ck_skipHints : MethodName := ⟨"ProofCourt$Check", "skipHints", "()V"⟩
abbrev mw_Ck_skipHints : List Cond := .code ym_Ck_skipHints cb_Ck_skipHints 1 none :: hw_all
abbrev cb_Co_refuted : ByteArray := prog_1_method_12_code
def ym_Co_refuted : MethodName := ⟨"ProofCourt", "refuted", "()Z"⟩
abbrev mw_Co_refuted : List Cond := .code ym_Co_refuted cb_Co_refuted 1 (some .boolean) :: hw_all
abbrev cb_Co_proves : ByteArray := prog_1_method_13_code
def ym_Co_proves : MethodName := ⟨"ProofCourt", "proves", "()Z"⟩
abbrev mw_Co_proves : List Cond := .code ym_Co_proves cb_Co_proves 1 (some .boolean) :: hw_all
abbrev cb_Mo_init : ByteArray := prog_10_method_1_code
def ym_Mo_init : MethodName := ⟨"ProofCourtModel", "<init>", "()V"⟩
abbrev mw_Mo_init : List Cond := .code ym_Mo_init cb_Mo_init 1 none :: hw_all
abbrev cb_Mo_type : ByteArray := prog_10_method_3_code
def ym_Mo_type : MethodName := ⟨"ProofCourtModel", "type", "(II)Z"⟩
abbrev mw_Mo_type : List Cond := .code ym_Mo_type cb_Mo_type 6 (some .boolean) :: hw_all
abbrev cb_Mo_in : ByteArray := prog_10_method_2_code
def ym_Mo_in : MethodName := ⟨"ProofCourtModel", "in", "(III)Z"⟩
abbrev mw_Mo_in : List Cond := .code ym_Mo_in cb_Mo_in 3 (some .boolean) :: hw_all
abbrev cb_Mo_read : ByteArray := prog_10_method_16_code
def ym_Mo_read : MethodName := ⟨"ProofCourtModel", "read", "()I"⟩
abbrev mw_Mo_read : List Cond := .code ym_Mo_read cb_Mo_read 4 (some .int) :: hw_all
abbrev cb_Mo_cut : ByteArray := prog_10_method_5_code
def ym_Mo_cut : MethodName := ⟨"ProofCourtModel", "cut", "(Z)V"⟩
abbrev mw_Mo_cut : List Cond := .code ym_Mo_cut cb_Mo_cut 6 none :: hw_all
abbrev cb_Mo_isGap : ByteArray := prog_10_method_4_code
def ym_Mo_isGap : MethodName := ⟨"ProofCourtModel", "isGap", "(I)Z"⟩
abbrev mw_Mo_isGap : List Cond := .code ym_Mo_isGap cb_Mo_isGap 2 (some .boolean) :: hw_all
abbrev cb_Mo_expect : ByteArray := prog_10_method_8_code
def ym_Mo_expect : MethodName := ⟨"ProofCourtModel", "expect", "(III)V"⟩
abbrev mw_Mo_expect : List Cond := .code ym_Mo_expect cb_Mo_expect 4 none :: hw_all
abbrev cb_Mo_isWord : ByteArray := prog_10_method_7_code
def ym_Mo_isWord : MethodName := ⟨"ProofCourtModel", "isWord", "(III)Z"⟩
abbrev mw_Mo_isWord : List Cond := .code ym_Mo_isWord cb_Mo_isWord 6 (some .boolean) :: hw_all
abbrev cb_Mo_fail : ByteArray := prog_10_method_6_code
def ym_Mo_fail : MethodName := ⟨"ProofCourtModel", "fail", "()V"⟩
abbrev mw_Mo_fail : List Cond := .code ym_Mo_fail cb_Mo_fail 1 none :: hw_all
abbrev cb_Mo_take : ByteArray := prog_10_method_11_code
def ym_Mo_take : MethodName := ⟨"ProofCourtModel", "take", "(II)I"⟩
abbrev mw_Mo_take : List Cond := .code ym_Mo_take cb_Mo_take 4 (some .int) :: hw_all
abbrev cb_Mo_isNumber : ByteArray := prog_10_method_9_code
def ym_Mo_isNumber : MethodName := ⟨"ProofCourtModel", "isNumber", "(II)Z"⟩
abbrev mw_Mo_isNumber : List Cond := .code ym_Mo_isNumber cb_Mo_isNumber 7 (some .boolean) :: hw_all
abbrev cb_Mo_worth : ByteArray := prog_10_method_10_code
def ym_Mo_worth : MethodName := ⟨"ProofCourtModel", "worth", "()I"⟩
abbrev mw_Mo_worth : List Cond := .code ym_Mo_worth cb_Mo_worth 4 (some .int) :: hw_all
abbrev cb_Mo_readClause : ByteArray := prog_10_method_15_code
def ym_Mo_readClause : MethodName := ⟨"ProofCourtModel", "readClause", "(II)V"⟩
abbrev mw_Mo_readClause : List Cond := .code ym_Mo_readClause cb_Mo_readClause 6 none :: hw_all
abbrev cb_Mo_hasLiteral : ByteArray := prog_10_method_13_code
def ym_Mo_hasLiteral : MethodName := ⟨"ProofCourtModel", "hasLiteral", "(II)Z"⟩
abbrev mw_Mo_hasLiteral : List Cond := .code ym_Mo_hasLiteral cb_Mo_hasLiteral 5 (some .boolean) :: hw_all
abbrev cb_Mo_literalOf : ByteArray := prog_10_method_12_code
def ym_Mo_literalOf : MethodName := ⟨"ProofCourtModel", "literalOf", "(II)I"⟩
abbrev mw_Mo_literalOf : List Cond := .code ym_Mo_literalOf cb_Mo_literalOf 3 (some .int) :: hw_all
abbrev cb_Mo_copy : ByteArray := prog_10_method_14_code
def ym_Mo_copy : MethodName := ⟨"ProofCourtModel", "copy", "(II)V"⟩
abbrev mw_Mo_copy : List Cond := .code ym_Mo_copy cb_Mo_copy 4 none :: hw_all
abbrev cb_Mo_variables : ByteArray := prog_10_method_17_code
def ym_Mo_variables : MethodName := ⟨"ProofCourtModel", "variables", "()I"⟩
abbrev mw_Mo_variables : List Cond := .code ym_Mo_variables cb_Mo_variables 1 (some .int) :: hw_all
abbrev cb_Mo_live : ByteArray := prog_10_method_18_code
def ym_Mo_live : MethodName := ⟨"ProofCourtModel", "live", "()I"⟩
abbrev mw_Mo_live : List Cond := .code ym_Mo_live cb_Mo_live 1 (some .int) :: hw_all
abbrev cb_Mo_literal : ByteArray := prog_10_method_20_code
def ym_Mo_literal : MethodName := ⟨"ProofCourtModel", "literal", "(II)I"⟩
abbrev mw_Mo_literal : List Cond := .code ym_Mo_literal cb_Mo_literal 4 (some .int) :: hw_all
abbrev cb_Mo_find : ByteArray := prog_10_method_19_code
def ym_Mo_find : MethodName := ⟨"ProofCourtModel", "find", "(I)I"⟩
abbrev mw_Mo_find : List Cond := .code ym_Mo_find cb_Mo_find 4 (some .int) :: hw_all
abbrev cb_Mo_solve : ByteArray := prog_10_method_24_code
def ym_Mo_solve : MethodName := ⟨"ProofCourtModel", "solve", "()I"⟩
abbrev mw_Mo_solve : List Cond := .code ym_Mo_solve cb_Mo_solve 1 (some .int) :: hw_all
abbrev cb_Mo_least : ByteArray := prog_10_method_23_code
def ym_Mo_least : MethodName := ⟨"ProofCourtModel", "least", "()I"⟩
abbrev mw_Mo_least : List Cond := .code ym_Mo_least cb_Mo_least 3 (some .int) :: hw_all
abbrev cb_Mo_satisfies : ByteArray := prog_10_method_22_code
def ym_Mo_satisfies : MethodName := ⟨"ProofCourtModel", "satisfies", "(I)Z"⟩
abbrev mw_Mo_satisfies : List Cond := .code ym_Mo_satisfies cb_Mo_satisfies 6 (some .boolean) :: hw_all
abbrev cb_Mo_isTrue : ByteArray := prog_10_method_21_code
def ym_Mo_isTrue : MethodName := ⟨"ProofCourtModel", "isTrue", "(II)Z"⟩
abbrev mw_Mo_isTrue : List Cond := .code ym_Mo_isTrue cb_Mo_isTrue 4 (some .boolean) :: hw_all
abbrev cb_Mo_value : ByteArray := prog_10_method_25_code
def ym_Mo_value : MethodName := ⟨"ProofCourtModel", "value", "(I)I"⟩
abbrev mw_Mo_value : List Cond := .code ym_Mo_value cb_Mo_value 3 (some .int) :: hw_all
abbrev cb_Mo_count : ByteArray := prog_10_method_26_code
def ym_Mo_count : MethodName := ⟨"ProofCourtModel", "count", "()I"⟩
abbrev mw_Mo_count : List Cond := .code ym_Mo_count cb_Mo_count 3 (some .int) :: hw_all
abbrev cb_Mo_proves : ByteArray := prog_10_method_27_code
def ym_Mo_proves : MethodName := ⟨"ProofCourtModel", "proves", "()Z"⟩
abbrev mw_Mo_proves : List Cond := .code ym_Mo_proves cb_Mo_proves 1 (some .boolean) :: hw_all
abbrev cb_Mo_forced : ByteArray := prog_10_method_30_code
def ym_Mo_forced : MethodName := ⟨"ProofCourtModel", "forced", "(II)I"⟩
abbrev mw_Mo_forced : List Cond := .code ym_Mo_forced cb_Mo_forced 6 (some .int) :: hw_all
abbrev cb_Mo_forget : ByteArray := prog_10_method_28_code
def ym_Mo_forget : MethodName := ⟨"ProofCourtModel", "forget", "()V"⟩
abbrev mw_Mo_forget : List Cond := .code ym_Mo_forget cb_Mo_forget 2 none :: hw_all
abbrev cb_Mo_told : ByteArray := prog_10_method_29_code
def ym_Mo_told : MethodName := ⟨"ProofCourtModel", "told", "(I)I"⟩
abbrev mw_Mo_told : List Cond := .code ym_Mo_told cb_Mo_told 6 (some .int) :: hw_all
abbrev cb_Mo_line : ByteArray := prog_10_method_32_code
def ym_Mo_line : MethodName := ⟨"ProofCourtModel", "line", "()I"⟩
abbrev mw_Mo_line : List Cond := .code ym_Mo_line cb_Mo_line 3 (some .int) :: hw_all
abbrev cb_Mo_readHints : ByteArray := prog_10_method_31_code
def ym_Mo_readHints : MethodName := ⟨"ProofCourtModel", "readHints", "(I)V"⟩
abbrev mw_Mo_readHints : List Cond := .code ym_Mo_readHints cb_Mo_readHints 5 none :: hw_all
abbrev cb_Mo_delete : ByteArray := prog_10_method_33_code
def ym_Mo_delete : MethodName := ⟨"ProofCourtModel", "delete", "()I"⟩
abbrev mw_Mo_delete : List Cond := .code ym_Mo_delete cb_Mo_delete 4 (some .int) :: hw_all
abbrev cb_Mo_add : ByteArray := prog_10_method_34_code
def ym_Mo_add : MethodName := ⟨"ProofCourtModel", "add", "(I)I"⟩
abbrev mw_Mo_add : List Cond := .code ym_Mo_add cb_Mo_add 2 (some .int) :: hw_all
abbrev cb_Mo_holds : ByteArray := prog_10_method_36_code
def ym_Mo_holds : MethodName := ⟨"ProofCourtModel", "holds", "()Z"⟩
abbrev mw_Mo_holds : List Cond := .code ym_Mo_holds cb_Mo_holds 3 (some .boolean) :: hw_all
abbrev cb_Mo_follow : ByteArray := prog_10_method_35_code
def ym_Mo_follow : MethodName := ⟨"ProofCourtModel", "follow", "()I"⟩
abbrev mw_Mo_follow : List Cond := .code ym_Mo_follow cb_Mo_follow 4 (some .int) :: hw_all
abbrev cb_Mo_groupsHold : ByteArray := prog_10_method_37_code
def ym_Mo_groupsHold : MethodName := ⟨"ProofCourtModel", "groupsHold", "(I)Z"⟩
abbrev mw_Mo_groupsHold : List Cond := .code ym_Mo_groupsHold cb_Mo_groupsHold 3 (some .boolean) :: hw_all
abbrev cb_Mo_suppose : ByteArray := prog_10_method_38_code
def ym_Mo_suppose : MethodName := ⟨"ProofCourtModel", "suppose", "(II)Z"⟩
abbrev mw_Mo_suppose : List Cond := .code ym_Mo_suppose cb_Mo_suppose 5 (some .boolean) :: hw_all
abbrev cb_Mo_refuted : ByteArray := prog_10_method_39_code
def ym_Mo_refuted : MethodName := ⟨"ProofCourtModel", "refuted", "()Z"⟩
abbrev mw_Mo_refuted : List Cond := .code ym_Mo_refuted cb_Mo_refuted 1 (some .boolean) :: hw_all
abbrev cb_La_law : ByteArray := code
abbrev mw_La_law : List Cond := .initialized "ProofCourt" :: hw_all
