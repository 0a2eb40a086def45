section
-- ===== PART A: goes FIRST, ahead of the names: the tables' words, and 'selects' of the private methods out of them =====
/-- a private method of a class that the tables say can be made, by its rows of tables_1 -/
def lw_okq (q : MethodName × Nat) : Prop := (q.1.cls ≠ "java/lang/invoke/MethodHandle" ∧ q.1.cls ≠ "java/lang/invoke/VarHandle") ∧ Cond.instantiable q.1.cls q.2 ∈ tables_1 ∧ Cond.privateMethod q.1 ∈ tables_1 ∧ Cond.instanceMethod q.1 ∈ tables_1
theorem lw_p0 : lw_okq (⟨"ProofCourt", "take", "(LProofCourt$Formula;)V"⟩, 4) := ⟨⟨by decide +kernel, by decide +kernel⟩, List.mem_of_getElem? (i := 16) (by decide +kernel), List.mem_of_getElem? (i := 162) (by decide +kernel), List.mem_of_getElem? (i := 163) (by decide +kernel)⟩
theorem lw_p1 : lw_okq (⟨"ProofCourt$Text", "standBehind", "(I)V"⟩, 6) := ⟨⟨by decide +kernel, by decide +kernel⟩, List.mem_of_getElem? (i := 24) (by decide +kernel), List.mem_of_getElem? (i := 216) (by decide +kernel), List.mem_of_getElem? (i := 217) (by decide +kernel)⟩
theorem lw_p2 : lw_okq (⟨"ProofCourt$Text", "isRemark", "()Z"⟩, 6) := ⟨⟨by decide +kernel, by decide +kernel⟩, List.mem_of_getElem? (i := 24) (by decide +kernel), List.mem_of_getElem? (i := 223) (by decide +kernel), List.mem_of_getElem? (i := 224) (by decide +kernel)⟩
theorem lw_p3 : lw_okq (⟨"ProofCourt$Text", "beginsLine", "()Z"⟩, 6) := ⟨⟨by decide +kernel, by decide +kernel⟩, List.mem_of_getElem? (i := 24) (by decide +kernel), List.mem_of_getElem? (i := 280) (by decide +kernel), List.mem_of_getElem? (i := 281) (by decide +kernel)⟩
theorem lw_p4 : lw_okq (⟨"ProofCourt$Text", "lineEnd", "()I"⟩, 6) := ⟨⟨by decide +kernel, by decide +kernel⟩, List.mem_of_getElem? (i := 24) (by decide +kernel), List.mem_of_getElem? (i := 284) (by decide +kernel), List.mem_of_getElem? (i := 285) (by decide +kernel)⟩
theorem lw_p5 : lw_okq (⟨"ProofCourt$Formula", "takesClauses", "(LProofCourt$Text;I)Z"⟩, 4) := ⟨⟨by decide +kernel, by decide +kernel⟩, List.mem_of_getElem? (i := 135) (by decide +kernel), List.mem_of_getElem? (i := 304) (by decide +kernel), List.mem_of_getElem? (i := 305) (by decide +kernel)⟩
theorem lw_p6 : lw_okq (⟨"ProofCourt$Clause", "accept", "(I)Z"⟩, 4) := ⟨⟨by decide +kernel, by decide +kernel⟩, List.mem_of_getElem? (i := 311) (by decide +kernel), List.mem_of_getElem? (i := 342) (by decide +kernel), List.mem_of_getElem? (i := 343) (by decide +kernel)⟩
theorem lw_p7 : lw_okq (⟨"ProofCourt$Search", "propagate", "()I"⟩, 15) := ⟨⟨by decide +kernel, by decide +kernel⟩, List.mem_of_getElem? (i := 79) (by decide +kernel), List.mem_of_getElem? (i := 382) (by decide +kernel), List.mem_of_getElem? (i := 383) (by decide +kernel)⟩
theorem lw_p8 : lw_okq (⟨"ProofCourt$Search", "assume", "(II)V"⟩, 15) := ⟨⟨by decide +kernel, by decide +kernel⟩, List.mem_of_getElem? (i := 79) (by decide +kernel), List.mem_of_getElem? (i := 399) (by decide +kernel), List.mem_of_getElem? (i := 400) (by decide +kernel)⟩
theorem lw_p9 : lw_okq (⟨"ProofCourt$Search", "resolve", "(I)V"⟩, 15) := ⟨⟨by decide +kernel, by decide +kernel⟩, List.mem_of_getElem? (i := 79) (by decide +kernel), List.mem_of_getElem? (i := 403) (by decide +kernel), List.mem_of_getElem? (i := 404) (by decide +kernel)⟩
theorem lw_p10 : lw_okq (⟨"ProofCourt$Search", "learn", "(I)I"⟩, 15) := ⟨⟨by decide +kernel, by decide +kernel⟩, List.mem_of_getElem? (i := 79) (by decide +kernel), List.mem_of_getElem? (i := 407) (by decide +kernel), List.mem_of_getElem? (i := 408) (by decide +kernel)⟩
theorem lw_p11 : lw_okq (⟨"ProofCourt$Search", "isKept", "(II)Z"⟩, 15) := ⟨⟨by decide +kernel, by decide +kernel⟩, List.mem_of_getElem? (i := 79) (by decide +kernel), List.mem_of_getElem? (i := 412) (by decide +kernel), List.mem_of_getElem? (i := 413) (by decide +kernel)⟩
theorem lw_p12 : lw_okq (⟨"ProofCourt$Search", "stepHolds", "(I)Z"⟩, 15) := ⟨⟨by decide +kernel, by decide +kernel⟩, List.mem_of_getElem? (i := 79) (by decide +kernel), List.mem_of_getElem? (i := 416) (by decide +kernel), List.mem_of_getElem? (i := 417) (by decide +kernel)⟩
theorem lw_p13 : lw_okq (⟨"ProofCourt$Search", "jumpBack", "(I)V"⟩, 15) := ⟨⟨by decide +kernel, by decide +kernel⟩, List.mem_of_getElem? (i := 79) (by decide +kernel), List.mem_of_getElem? (i := 420) (by decide +kernel), List.mem_of_getElem? (i := 421) (by decide +kernel)⟩
theorem lw_p14 : lw_okq (⟨"ProofCourt$Search", "decide", "()V"⟩, 15) := ⟨⟨by decide +kernel, by decide +kernel⟩, List.mem_of_getElem? (i := 79) (by decide +kernel), List.mem_of_getElem? (i := 425) (by decide +kernel), List.mem_of_getElem? (i := 426) (by decide +kernel)⟩
theorem lw_p15 : lw_okq (⟨"ProofCourt$Formula", "isSatisfied", "(I)Z"⟩, 4) := ⟨⟨by decide +kernel, by decide +kernel⟩, List.mem_of_getElem? (i := 135) (by decide +kernel), List.mem_of_getElem? (i := 443) (by decide +kernel), List.mem_of_getElem? (i := 444) (by decide +kernel)⟩
def lw_privs_1 : List (MethodName × Nat) := [(⟨"ProofCourt", "take", "(LProofCourt$Formula;)V"⟩, 4), (⟨"ProofCourt$Text", "standBehind", "(I)V"⟩, 6), (⟨"ProofCourt$Text", "isRemark", "()Z"⟩, 6), (⟨"ProofCourt$Text", "beginsLine", "()Z"⟩, 6), (⟨"ProofCourt$Text", "lineEnd", "()I"⟩, 6), (⟨"ProofCourt$Formula", "takesClauses", "(LProofCourt$Text;I)Z"⟩, 4), (⟨"ProofCourt$Clause", "accept", "(I)Z"⟩, 4), (⟨"ProofCourt$Search", "propagate", "()I"⟩, 15), (⟨"ProofCourt$Search", "assume", "(II)V"⟩, 15), (⟨"ProofCourt$Search", "resolve", "(I)V"⟩, 15), (⟨"ProofCourt$Search", "learn", "(I)I"⟩, 15), (⟨"ProofCourt$Search", "isKept", "(II)Z"⟩, 15), (⟨"ProofCourt$Search", "stepHolds", "(I)Z"⟩, 15), (⟨"ProofCourt$Search", "jumpBack", "(I)V"⟩, 15), (⟨"ProofCourt$Search", "decide", "()V"⟩, 15), (⟨"ProofCourt$Formula", "isSatisfied", "(I)Z"⟩, 4)]
theorem lw_r1 : ∀ q ∈ lw_privs_1, lw_okq q := List.forall_mem_cons.mpr ⟨lw_p0, List.forall_mem_cons.mpr ⟨lw_p1, List.forall_mem_cons.mpr ⟨lw_p2, List.forall_mem_cons.mpr ⟨lw_p3, List.forall_mem_cons.mpr ⟨lw_p4, List.forall_mem_cons.mpr ⟨lw_p5, List.forall_mem_cons.mpr ⟨lw_p6, List.forall_mem_cons.mpr ⟨lw_p7, List.forall_mem_cons.mpr ⟨lw_p8, List.forall_mem_cons.mpr ⟨lw_p9, List.forall_mem_cons.mpr ⟨lw_p10, List.forall_mem_cons.mpr ⟨lw_p11, List.forall_mem_cons.mpr ⟨lw_p12, List.forall_mem_cons.mpr ⟨lw_p13, List.forall_mem_cons.mpr ⟨lw_p14, List.forall_mem_cons.mpr ⟨lw_p15, fun _ h => absurd h List.not_mem_nil⟩⟩⟩⟩⟩⟩⟩⟩⟩⟩⟩⟩⟩⟩⟩⟩
theorem lw_p16 : lw_okq (⟨"ProofCourt", "isLiteralOrNone", "(I)Z"⟩, 4) := ⟨⟨by decide +kernel, by decide +kernel⟩, List.mem_of_getElem? (i := 16) (by decide +kernel), List.mem_of_getElem? (i := 451) (by decide +kernel), List.mem_of_getElem? (i := 452) (by decide +kernel)⟩
theorem lw_p17 : lw_okq (⟨"ProofCourt$Line", "takesNamed", "(LProofCourt$Text;I)Z"⟩, 4) := ⟨⟨by decide +kernel, by decide +kernel⟩, List.mem_of_getElem? (i := 469) (by decide +kernel), List.mem_of_getElem? (i := 498) (by decide +kernel), List.mem_of_getElem? (i := 499) (by decide +kernel)⟩
theorem lw_p18 : lw_okq (⟨"ProofCourt$Line", "takesClause", "(LProofCourt$Text;I)Z"⟩, 4) := ⟨⟨by decide +kernel, by decide +kernel⟩, List.mem_of_getElem? (i := 469) (by decide +kernel), List.mem_of_getElem? (i := 504) (by decide +kernel), List.mem_of_getElem? (i := 505) (by decide +kernel)⟩
theorem lw_p19 : lw_okq (⟨"ProofCourt$Check", "followHints", "()I"⟩, 4) := ⟨⟨by decide +kernel, by decide +kernel⟩, List.mem_of_getElem? (i := 523) (by decide +kernel), List.mem_of_getElem? (i := 547) (by decide +kernel), List.mem_of_getElem? (i := 548) (by decide +kernel)⟩
theorem lw_p20 : lw_okq (⟨"ProofCourt$Check", "groupsHold", "()Z"⟩, 4) := ⟨⟨by decide +kernel, by decide +kernel⟩, List.mem_of_getElem? (i := 523) (by decide +kernel), List.mem_of_getElem? (i := 553) (by decide +kernel), List.mem_of_getElem? (i := 554) (by decide +kernel)⟩
theorem lw_p21 : lw_okq (⟨"ProofCourt$Check", "skipHints", "()V"⟩, 4) := ⟨⟨by decide +kernel, by decide +kernel⟩, List.mem_of_getElem? (i := 523) (by decide +kernel), List.mem_of_getElem? (i := 558) (by decide +kernel), List.mem_of_getElem? (i := 559) (by decide +kernel)⟩
theorem lw_p22 : lw_okq (⟨"ProofCourtModel", "cut", "(Z)V"⟩, 21) := ⟨⟨by decide +kernel, by decide +kernel⟩, List.mem_of_getElem? (i := 570) (by decide +kernel), List.mem_of_getElem? (i := 652) (by decide +kernel), List.mem_of_getElem? (i := 653) (by decide +kernel)⟩
theorem lw_p23 : lw_okq (⟨"ProofCourtModel", "isGap", "(I)Z"⟩, 21) := ⟨⟨by decide +kernel, by decide +kernel⟩, List.mem_of_getElem? (i := 570) (by decide +kernel), List.mem_of_getElem? (i := 656) (by decide +kernel), List.mem_of_getElem? (i := 657) (by decide +kernel)⟩
theorem lw_p24 : lw_okq (⟨"ProofCourtModel", "expect", "(III)V"⟩, 21) := ⟨⟨by decide +kernel, by decide +kernel⟩, List.mem_of_getElem? (i := 570) (by decide +kernel), List.mem_of_getElem? (i := 660) (by decide +kernel), List.mem_of_getElem? (i := 661) (by decide +kernel)⟩
theorem lw_p25 : lw_okq (⟨"ProofCourtModel", "isWord", "(III)Z"⟩, 21) := ⟨⟨by decide +kernel, by decide +kernel⟩, List.mem_of_getElem? (i := 570) (by decide +kernel), List.mem_of_getElem? (i := 664) (by decide +kernel), List.mem_of_getElem? (i := 665) (by decide +kernel)⟩
theorem lw_p26 : lw_okq (⟨"ProofCourtModel", "fail", "()V"⟩, 21) := ⟨⟨by decide +kernel, by decide +kernel⟩, List.mem_of_getElem? (i := 570) (by decide +kernel), List.mem_of_getElem? (i := 668) (by decide +kernel), List.mem_of_getElem? (i := 669) (by decide +kernel)⟩
theorem lw_p27 : lw_okq (⟨"ProofCourtModel", "take", "(II)I"⟩, 21) := ⟨⟨by decide +kernel, by decide +kernel⟩, List.mem_of_getElem? (i := 570) (by decide +kernel), List.mem_of_getElem? (i := 672) (by decide +kernel), List.mem_of_getElem? (i := 673) (by decide +kernel)⟩
theorem lw_p28 : lw_okq (⟨"ProofCourtModel", "isNumber", "(II)Z"⟩, 21) := ⟨⟨by decide +kernel, by decide +kernel⟩, List.mem_of_getElem? (i := 570) (by decide +kernel), List.mem_of_getElem? (i := 676) (by decide +kernel), List.mem_of_getElem? (i := 677) (by decide +kernel)⟩
theorem lw_p29 : lw_okq (⟨"ProofCourtModel", "worth", "()I"⟩, 21) := ⟨⟨by decide +kernel, by decide +kernel⟩, List.mem_of_getElem? (i := 570) (by decide +kernel), List.mem_of_getElem? (i := 680) (by decide +kernel), List.mem_of_getElem? (i := 681) (by decide +kernel)⟩
theorem lw_p30 : lw_okq (⟨"ProofCourtModel", "readClause", "(II)V"⟩, 21) := ⟨⟨by decide +kernel, by decide +kernel⟩, List.mem_of_getElem? (i := 570) (by decide +kernel), List.mem_of_getElem? (i := 684) (by decide +kernel), List.mem_of_getElem? (i := 685) (by decide +kernel)⟩
theorem lw_p31 : lw_okq (⟨"ProofCourtModel", "hasLiteral", "(II)Z"⟩, 21) := ⟨⟨by decide +kernel, by decide +kernel⟩, List.mem_of_getElem? (i := 570) (by decide +kernel), List.mem_of_getElem? (i := 688) (by decide +kernel), List.mem_of_getElem? (i := 689) (by decide +kernel)⟩
def lw_privs_2 : List (MethodName × Nat) := [(⟨"ProofCourt", "isLiteralOrNone", "(I)Z"⟩, 4), (⟨"ProofCourt$Line", "takesNamed", "(LProofCourt$Text;I)Z"⟩, 4), (⟨"ProofCourt$Line", "takesClause", "(LProofCourt$Text;I)Z"⟩, 4), (⟨"ProofCourt$Check", "followHints", "()I"⟩, 4), (⟨"ProofCourt$Check", "groupsHold", "()Z"⟩, 4), (⟨"ProofCourt$Check", "skipHints", "()V"⟩, 4), (⟨"ProofCourtModel", "cut", "(Z)V"⟩, 21), (⟨"ProofCourtModel", "isGap", "(I)Z"⟩, 21), (⟨"ProofCourtModel", "expect", "(III)V"⟩, 21), (⟨"ProofCourtModel", "isWord", "(III)Z"⟩, 21), (⟨"ProofCourtModel", "fail", "()V"⟩, 21), (⟨"ProofCourtModel", "take", "(II)I"⟩, 21), (⟨"ProofCourtModel", "isNumber", "(II)Z"⟩, 21), (⟨"ProofCourtModel", "worth", "()I"⟩, 21), (⟨"ProofCourtModel", "readClause", "(II)V"⟩, 21), (⟨"ProofCourtModel", "hasLiteral", "(II)Z"⟩, 21)]
theorem lw_r2 : ∀ q ∈ lw_privs_2, lw_okq q := List.forall_mem_cons.mpr ⟨lw_p16, List.forall_mem_cons.mpr ⟨lw_p17, List.forall_mem_cons.mpr ⟨lw_p18, List.forall_mem_cons.mpr ⟨lw_p19, List.forall_mem_cons.mpr ⟨lw_p20, List.forall_mem_cons.mpr ⟨lw_p21, List.forall_mem_cons.mpr ⟨lw_p22, List.forall_mem_cons.mpr ⟨lw_p23, List.forall_mem_cons.mpr ⟨lw_p24, List.forall_mem_cons.mpr ⟨lw_p25, List.forall_mem_cons.mpr ⟨lw_p26, List.forall_mem_cons.mpr ⟨lw_p27, List.forall_mem_cons.mpr ⟨lw_p28, List.forall_mem_cons.mpr ⟨lw_p29, List.forall_mem_cons.mpr ⟨lw_p30, List.forall_mem_cons.mpr ⟨lw_p31, fun _ h => absurd h List.not_mem_nil⟩⟩⟩⟩⟩⟩⟩⟩⟩⟩⟩⟩⟩⟩⟩⟩
theorem lw_p32 : lw_okq (⟨"ProofCourtModel", "literalOf", "(II)I"⟩, 21) := ⟨⟨by decide +kernel, by decide +kernel⟩, List.mem_of_getElem? (i := 570) (by decide +kernel), List.mem_of_getElem? (i := 692) (by decide +kernel), List.mem_of_getElem? (i := 693) (by decide +kernel)⟩
theorem lw_p33 : lw_okq (⟨"ProofCourtModel", "copy", "(II)V"⟩, 21) := ⟨⟨by decide +kernel, by decide +kernel⟩, List.mem_of_getElem? (i := 570) (by decide +kernel), List.mem_of_getElem? (i := 696) (by decide +kernel), List.mem_of_getElem? (i := 697) (by decide +kernel)⟩
theorem lw_p34 : lw_okq (⟨"ProofCourtModel", "find", "(I)I"⟩, 21) := ⟨⟨by decide +kernel, by decide +kernel⟩, List.mem_of_getElem? (i := 570) (by decide +kernel), List.mem_of_getElem? (i := 712) (by decide +kernel), List.mem_of_getElem? (i := 713) (by decide +kernel)⟩
theorem lw_p35 : lw_okq (⟨"ProofCourtModel", "least", "()I"⟩, 21) := ⟨⟨by decide +kernel, by decide +kernel⟩, List.mem_of_getElem? (i := 570) (by decide +kernel), List.mem_of_getElem? (i := 720) (by decide +kernel), List.mem_of_getElem? (i := 721) (by decide +kernel)⟩
theorem lw_p36 : lw_okq (⟨"ProofCourtModel", "satisfies", "(I)Z"⟩, 21) := ⟨⟨by decide +kernel, by decide +kernel⟩, List.mem_of_getElem? (i := 570) (by decide +kernel), List.mem_of_getElem? (i := 724) (by decide +kernel), List.mem_of_getElem? (i := 725) (by decide +kernel)⟩
theorem lw_p37 : lw_okq (⟨"ProofCourtModel", "isTrue", "(II)Z"⟩, 21) := ⟨⟨by decide +kernel, by decide +kernel⟩, List.mem_of_getElem? (i := 570) (by decide +kernel), List.mem_of_getElem? (i := 728) (by decide +kernel), List.mem_of_getElem? (i := 729) (by decide +kernel)⟩
theorem lw_p38 : lw_okq (⟨"ProofCourtModel", "forget", "()V"⟩, 21) := ⟨⟨by decide +kernel, by decide +kernel⟩, List.mem_of_getElem? (i := 570) (by decide +kernel), List.mem_of_getElem? (i := 748) (by decide +kernel), List.mem_of_getElem? (i := 749) (by decide +kernel)⟩
theorem lw_p39 : lw_okq (⟨"ProofCourtModel", "told", "(I)I"⟩, 21) := ⟨⟨by decide +kernel, by decide +kernel⟩, List.mem_of_getElem? (i := 570) (by decide +kernel), List.mem_of_getElem? (i := 752) (by decide +kernel), List.mem_of_getElem? (i := 753) (by decide +kernel)⟩
theorem lw_p40 : lw_okq (⟨"ProofCourtModel", "readHints", "(I)V"⟩, 21) := ⟨⟨by decide +kernel, by decide +kernel⟩, List.mem_of_getElem? (i := 570) (by decide +kernel), List.mem_of_getElem? (i := 760) (by decide +kernel), List.mem_of_getElem? (i := 761) (by decide +kernel)⟩
theorem lw_p41 : lw_okq (⟨"ProofCourtModel", "delete", "()I"⟩, 21) := ⟨⟨by decide +kernel, by decide +kernel⟩, List.mem_of_getElem? (i := 570) (by decide +kernel), List.mem_of_getElem? (i := 764) (by decide +kernel), List.mem_of_getElem? (i := 765) (by decide +kernel)⟩
theorem lw_p42 : lw_okq (⟨"ProofCourtModel", "add", "(I)I"⟩, 21) := ⟨⟨by decide +kernel, by decide +kernel⟩, List.mem_of_getElem? (i := 570) (by decide +kernel), List.mem_of_getElem? (i := 768) (by decide +kernel), List.mem_of_getElem? (i := 769) (by decide +kernel)⟩
theorem lw_p43 : lw_okq (⟨"ProofCourtModel", "holds", "()Z"⟩, 21) := ⟨⟨by decide +kernel, by decide +kernel⟩, List.mem_of_getElem? (i := 570) (by decide +kernel), List.mem_of_getElem? (i := 772) (by decide +kernel), List.mem_of_getElem? (i := 773) (by decide +kernel)⟩
theorem lw_p44 : lw_okq (⟨"ProofCourtModel", "follow", "()I"⟩, 21) := ⟨⟨by decide +kernel, by decide +kernel⟩, List.mem_of_getElem? (i := 570) (by decide +kernel), List.mem_of_getElem? (i := 776) (by decide +kernel), List.mem_of_getElem? (i := 777) (by decide +kernel)⟩
theorem lw_p45 : lw_okq (⟨"ProofCourtModel", "groupsHold", "(I)Z"⟩, 21) := ⟨⟨by decide +kernel, by decide +kernel⟩, List.mem_of_getElem? (i := 570) (by decide +kernel), List.mem_of_getElem? (i := 780) (by decide +kernel), List.mem_of_getElem? (i := 781) (by decide +kernel)⟩
theorem lw_p46 : lw_okq (⟨"ProofCourtModel", "suppose", "(II)Z"⟩, 21) := ⟨⟨by decide +kernel, by decide +kernel⟩, List.mem_of_getElem? (i := 570) (by decide +kernel), List.mem_of_getElem? (i := 784) (by decide +kernel), List.mem_of_getElem? (i := 785) (by decide +kernel)⟩
def lw_privs_3 : List (MethodName × Nat) := [(⟨"ProofCourtModel", "literalOf", "(II)I"⟩, 21), (⟨"ProofCourtModel", "copy", "(II)V"⟩, 21), (⟨"ProofCourtModel", "find", "(I)I"⟩, 21), (⟨"ProofCourtModel", "least", "()I"⟩, 21), (⟨"ProofCourtModel", "satisfies", "(I)Z"⟩, 21), (⟨"ProofCourtModel", "isTrue", "(II)Z"⟩, 21), (⟨"ProofCourtModel", "forget", "()V"⟩, 21), (⟨"ProofCourtModel", "told", "(I)I"⟩, 21), (⟨"ProofCourtModel", "readHints", "(I)V"⟩, 21), (⟨"ProofCourtModel", "delete", "()I"⟩, 21), (⟨"ProofCourtModel", "add", "(I)I"⟩, 21), (⟨"ProofCourtModel", "holds", "()Z"⟩, 21), (⟨"ProofCourtModel", "follow", "()I"⟩, 21), (⟨"ProofCourtModel", "groupsHold", "(I)Z"⟩, 21), (⟨"ProofCourtModel", "suppose", "(II)Z"⟩, 21)]
theorem lw_r3 : ∀ q ∈ lw_privs_3, lw_okq q := List.forall_mem_cons.mpr ⟨lw_p32, List.forall_mem_cons.mpr ⟨lw_p33, List.forall_mem_cons.mpr ⟨lw_p34, List.forall_mem_cons.mpr ⟨lw_p35, List.forall_mem_cons.mpr ⟨lw_p36, List.forall_mem_cons.mpr ⟨lw_p37, List.forall_mem_cons.mpr ⟨lw_p38, List.forall_mem_cons.mpr ⟨lw_p39, List.forall_mem_cons.mpr ⟨lw_p40, List.forall_mem_cons.mpr ⟨lw_p41, List.forall_mem_cons.mpr ⟨lw_p42, List.forall_mem_cons.mpr ⟨lw_p43, List.forall_mem_cons.mpr ⟨lw_p44, List.forall_mem_cons.mpr ⟨lw_p45, List.forall_mem_cons.mpr ⟨lw_p46, fun _ h => absurd h List.not_mem_nil⟩⟩⟩⟩⟩⟩⟩⟩⟩⟩⟩⟩⟩⟩⟩
def lw_privs : List (MethodName × Nat) := lw_privs_1 ++ (lw_privs_2 ++ (lw_privs_3))
def lw_tbl : List Cond := k2_sels lw_privs ++ tables_1
theorem lw_privs_ok : ∀ q ∈ lw_privs, lw_okq q := by
  show ∀ q ∈ lw_privs_1 ++ (lw_privs_2 ++ (lw_privs_3)), lw_okq q
  exact List.forall_mem_append.mpr ⟨lw_r1, List.forall_mem_append.mpr ⟨lw_r2, lw_r3⟩⟩
-- ===== end of PART A; then your names; then what follows =====
def ft_Te : u_T := fun k => match k with
  | 0 => ("ProofCourt$Text", "characters", "[C", true)
  | 1 => ("ProofCourt$Text", "length", "I", false)
  | 2 => ("ProofCourt$Text", "skipsRemarks", "Z", false)
  | 3 => ("ProofCourt$Text", "start", "I", false)
  | 4 => ("ProofCourt$Text", "end", "I", false)
  | _ => ("ProofCourt$Text", "number", "I", false)
def fy_Te : Nat → FieldType := fun k => match k with
  | 0 => .array .char
  | 1 => .int
  | 2 => .boolean
  | 3 => .int
  | 4 => .int
  | _ => .int
theorem fn_Te : ∀ a, a < 6 → ∀ b, b < 6 → a ≠ b → (ft_Te a).2.1 ≠ (ft_Te b).2.1 := by decide +kernel
theorem fz_Te : ∀ k, k < 6 → parseFieldDescriptor (ft_Te k).2.2.1 = some (fy_Te k) := by decide +kernel
def ft_Pr : u_T := fun k => match k with
  | 0 => ("ProofCourt$Proof", "clauses", "[LProofCourt$Clause;", true)
  | 1 => ("ProofCourt$Proof", "size", "I", false)
  | 2 => ("ProofCourt$Proof", "highest", "I", false)
  | _ => ("ProofCourt$Proof", "addedEmpty", "Z", false)
def fy_Pr : Nat → FieldType := fun k => match k with
  | 0 => .array (.object "ProofCourt$Clause")
  | 1 => .int
  | 2 => .int
  | _ => .boolean
theorem fn_Pr : ∀ a, a < 4 → ∀ b, b < 4 → a ≠ b → (ft_Pr a).2.1 ≠ (ft_Pr b).2.1 := by decide +kernel
theorem fz_Pr : ∀ k, k < 4 → parseFieldDescriptor (ft_Pr k).2.2.1 = some (fy_Pr k) := by decide +kernel
def ft_Se : u_T := fun k => match k with
  | 0 => ("ProofCourt$Search", "clauses", "[I", true)
  | 1 => ("ProofCourt$Search", "size", "I", false)
  | 2 => ("ProofCourt$Search", "variables", "I", false)
  | 3 => ("ProofCourt$Search", "finished", "Z", false)
  | 4 => ("ProofCourt$Search", "satisfied", "Z", false)
  | 5 => ("ProofCourt$Search", "reachedEmpty", "Z", false)
  | 6 => ("ProofCourt$Search", "stepsHold", "Z", false)
  | 7 => ("ProofCourt$Search", "known", "I", false)
  | 8 => ("ProofCourt$Search", "trail", "[I", true)
  | 9 => ("ProofCourt$Search", "reasons", "[I", true)
  | 10 => ("ProofCourt$Search", "trailSize", "I", false)
  | 11 => ("ProofCourt$Search", "knownBefore", "[I", true)
  | 12 => ("ProofCourt$Search", "level", "I", false)
  | 13 => ("ProofCourt$Search", "hints", "[I", true)
  | _ => ("ProofCourt$Search", "hintCount", "I", false)
def fy_Se : Nat → FieldType := fun k => match k with
  | 0 => .array .int
  | 1 => .int
  | 2 => .int
  | 3 => .boolean
  | 4 => .boolean
  | 5 => .boolean
  | 6 => .boolean
  | 7 => .int
  | 8 => .array .int
  | 9 => .array .int
  | 10 => .int
  | 11 => .array .int
  | 12 => .int
  | 13 => .array .int
  | _ => .int
theorem fn_Se : ∀ a, a < 15 → ∀ b, b < 15 → a ≠ b → (ft_Se a).2.1 ≠ (ft_Se b).2.1 := by decide +kernel
theorem fz_Se : ∀ k, k < 15 → parseFieldDescriptor (ft_Se k).2.2.1 = some (fy_Se k) := by decide +kernel
def ft_Fo : u_T := fun k => match k with
  | 0 => ("ProofCourt$Formula", "variables", "I", true)
  | 1 => ("ProofCourt$Formula", "clauses", "[LProofCourt$Clause;", true)
  | 2 => ("ProofCourt$Formula", "size", "I", false)
  | _ => ("ProofCourt$Formula", "counted", "I", false)
def fy_Fo : Nat → FieldType := fun k => match k with
  | 0 => .int
  | 1 => .array (.object "ProofCourt$Clause")
  | 2 => .int
  | _ => .int
theorem fn_Fo : ∀ a, a < 4 → ∀ b, b < 4 → a ≠ b → (ft_Fo a).2.1 ≠ (ft_Fo b).2.1 := by decide +kernel
theorem fz_Fo : ∀ k, k < 4 → parseFieldDescriptor (ft_Fo k).2.2.1 = some (fy_Fo k) := by decide +kernel
def ft_Co : u_T := fun k => match k with
  | 0 => ("ProofCourt", "text", "LProofCourt$Text;", true)
  | 1 => ("ProofCourt", "proof", "LProofCourt$Proof;", true)
  | 2 => ("ProofCourt", "search", "LProofCourt$Search;", true)
  | _ => ("ProofCourt", "formula", "LProofCourt$Formula;", false)
def fy_Co : Nat → FieldType := fun k => match k with
  | 0 => .object "ProofCourt$Text"
  | 1 => .object "ProofCourt$Proof"
  | 2 => .object "ProofCourt$Search"
  | _ => .object "ProofCourt$Formula"
theorem fn_Co : ∀ a, a < 4 → ∀ b, b < 4 → a ≠ b → (ft_Co a).2.1 ≠ (ft_Co b).2.1 := by decide +kernel
theorem fz_Co : ∀ k, k < 4 → parseFieldDescriptor (ft_Co k).2.2.1 = some (fy_Co k) := by decide +kernel
def ft_Cl : u_T := fun k => match k with
  | 0 => ("ProofCourt$Clause", "number", "I", true)
  | 1 => ("ProofCourt$Clause", "literals", "[I", true)
  | 2 => ("ProofCourt$Clause", "size", "I", false)
  | _ => ("ProofCourt$Clause", "mask", "I", false)
def fy_Cl : Nat → FieldType := fun k => match k with
  | 0 => .int
  | 1 => .array .int
  | 2 => .int
  | _ => .int
theorem fn_Cl : ∀ a, a < 4 → ∀ b, b < 4 → a ≠ b → (ft_Cl a).2.1 ≠ (ft_Cl b).2.1 := by decide +kernel
theorem fz_Cl : ∀ k, k < 4 → parseFieldDescriptor (ft_Cl k).2.2.1 = some (fy_Cl k) := by decide +kernel
def ft_Li : u_T := fun k => match k with
  | 0 => ("ProofCourt$Line", "number", "I", true)
  | 1 => ("ProofCourt$Line", "clause", "LProofCourt$Clause;", false)
  | 2 => ("ProofCourt$Line", "named", "[I", true)
  | _ => ("ProofCourt$Line", "size", "I", false)
def fy_Li : Nat → FieldType := fun k => match k with
  | 0 => .int
  | 1 => .object "ProofCourt$Clause"
  | 2 => .array .int
  | _ => .int
theorem fn_Li : ∀ a, a < 4 → ∀ b, b < 4 → a ≠ b → (ft_Li a).2.1 ≠ (ft_Li b).2.1 := by decide +kernel
theorem fz_Li : ∀ k, k < 4 → parseFieldDescriptor (ft_Li k).2.2.1 = some (fy_Li k) := by decide +kernel
def ft_Ck : u_T := fun k => match k with
  | 0 => ("ProofCourt$Check", "proof", "LProofCourt$Proof;", true)
  | 1 => ("ProofCourt$Check", "step", "LProofCourt$Line;", true)
  | 2 => ("ProofCourt$Check", "known", "I", false)
  | _ => ("ProofCourt$Check", "place", "I", false)
def fy_Ck : Nat → FieldType := fun k => match k with
  | 0 => .object "ProofCourt$Proof"
  | 1 => .object "ProofCourt$Line"
  | 2 => .int
  | _ => .int
theorem fn_Ck : ∀ a, a < 4 → ∀ b, b < 4 → a ≠ b → (ft_Ck a).2.1 ≠ (ft_Ck b).2.1 := by decide +kernel
theorem fz_Ck : ∀ k, k < 4 → parseFieldDescriptor (ft_Ck k).2.2.1 = some (fy_Ck k) := by decide +kernel
def ft_Mo : u_T := fun k => match k with
  | 0 => ("ProofCourtModel", "chars", "[I", true)
  | 1 => ("ProofCourtModel", "typed", "I", false)
  | 2 => ("ProofCourtModel", "words", "I", false)
  | 3 => ("ProofCourtModel", "begins", "[I", true)
  | 4 => ("ProofCourtModel", "ends", "[I", true)
  | 5 => ("ProofCourtModel", "next", "I", false)
  | 6 => ("ProofCourtModel", "size", "I", false)
  | 7 => ("ProofCourtModel", "fault", "I", false)
  | 8 => ("ProofCourtModel", "variables", "I", false)
  | 9 => ("ProofCourtModel", "many", "[I", true)
  | 10 => ("ProofCourtModel", "literals", "[I", true)
  | 11 => ("ProofCourtModel", "number", "[I", true)
  | 12 => ("ProofCourtModel", "clauses", "I", false)
  | 13 => ("ProofCourtModel", "lives", "I", false)
  | 14 => ("ProofCourtModel", "highest", "I", false)
  | 15 => ("ProofCourtModel", "empty", "Z", false)
  | 16 => ("ProofCourtModel", "hints", "I", false)
  | 17 => ("ProofCourtModel", "hint", "[I", true)
  | 18 => ("ProofCourtModel", "known", "[Z", true)
  | 19 => ("ProofCourtModel", "before", "[Z", true)
  | _ => ("ProofCourtModel", "place", "I", false)
def fy_Mo : Nat → FieldType := fun k => match k with
  | 0 => .array .int
  | 1 => .int
  | 2 => .int
  | 3 => .array .int
  | 4 => .array .int
  | 5 => .int
  | 6 => .int
  | 7 => .int
  | 8 => .int
  | 9 => .array .int
  | 10 => .array .int
  | 11 => .array .int
  | 12 => .int
  | 13 => .int
  | 14 => .int
  | 15 => .boolean
  | 16 => .int
  | 17 => .array .int
  | 18 => .array .boolean
  | 19 => .array .boolean
  | _ => .int
theorem fn_Mo : ∀ a, a < 21 → ∀ b, b < 21 → a ≠ b → (ft_Mo a).2.1 ≠ (ft_Mo b).2.1 := by decide +kernel
theorem fz_Mo : ∀ k, k < 21 → parseFieldDescriptor (ft_Mo k).2.2.1 = some (fy_Mo k) := by decide +kernel
abbrev vwCl : List vw_C := [("ProofCourt$Text", ft_Te, 6), ("ProofCourt$Proof", ft_Pr, 4), ("ProofCourt$Search", ft_Se, 15), ("ProofCourt$Formula", ft_Fo, 4), ("ProofCourt", ft_Co, 4), ("ProofCourt$Clause", ft_Cl, 4), ("ProofCourt$Line", ft_Li, 4), ("ProofCourt$Check", ft_Ck, 4), ("ProofCourtModel", ft_Mo, 21)]
def hw_all : List Cond := lw_tbl.filter goodWord
theorem hw_in {i : Nat} {w : Cond} (h : lw_tbl[i]? = some w) (hg : goodWord w = true) : w ∈ hw_all := List.mem_filter.mpr ⟨List.mem_of_getElem? h, hg⟩
theorem hw_inl (ws : List Cond) (ps : List Nat) (hp : ws = ps.filterMap (fun i => lw_tbl[i]?)) (hg : ws.all goodWord = true) : ∀ w ∈ ws, w ∈ hw_all := by
  intro w hw
  have h1 := List.all_eq_true.mp hg w hw
  rw [hp] at hw
  obtain ⟨i, -, hi⟩ := List.mem_filterMap.mp hw
  exact hw_in hi h1
theorem hw_all_good {w : Cond} (h : w ∈ hw_all) : (w.onTables && w.keeps) = true ∨ ∃ ty, w = .arrayClass ty := good_of_word (List.mem_filter.mp h).2
theorem hw_gL {w0 : Cond} (ws : List Cond) (h : ∀ w ∈ ws, w ∈ hw_all) : GoodIn (w0 :: hw_all) ws := fun w hw => ⟨List.mem_cons_of_mem _ (h w hw), hw_all_good (h w hw)⟩
theorem hw_g0 {w0 w1 : Cond} (h : w1 ∈ hw_all) : GoodIn (w0 :: hw_all) (w1 :: hw_all) := hw_gL _ (fun w hw => (List.mem_cons.mp hw).elim (fun e => e ▸ h) id)
theorem hw_gV {w0 w1 : Cond} {own C : String} {index : Nat} {y : MethodName} (h1 : Cond.methodLink own index y ∈ hw_all) (h2 : Cond.instanceMethod y ∈ hw_all) (h3 : Cond.selects C y y ∈ hw_all) (h4 : Cond.initialized C ∈ hw_all) (h5 : w1 ∈ hw_all) : GoodIn (w0 :: hw_all) (wsV own index C y (w1 :: hw_all)) := by
  refine hw_gL _ (fun w hw => ?_)
  unfold wsV at hw
  simp only [List.cons_append, List.nil_append, List.mem_cons] at hw
  rcases hw with rfl | rfl | rfl | rfl | rfl | hw <;> assumption
theorem hw_gS {w0 w1 : Cond} {own : String} {index : Nat} {y : MethodName} (h1 : Cond.methodLink own index y ∈ hw_all) (h2 : Cond.static y ∈ hw_all) (h4 : Cond.initialized y.cls ∈ hw_all) (h5 : w1 ∈ hw_all) : GoodIn (w0 :: hw_all) (va_wsS own index y (w1 :: hw_all)) := by
  refine hw_gL _ (fun w hw => ?_)
  unfold va_wsS at hw
  simp only [List.cons_append, List.nil_append, List.mem_cons] at hw
  rcases hw with rfl | rfl | rfl | rfl | hw <;> assumption
def hw_nest : List Cond := [Cond.methodLinkNest "ProofCourt" 11 ⟨"ProofCourt$Text", "<init>", "()V"⟩ "ProofCourt", Cond.fieldLinkNest "ProofCourt" 47 "ProofCourt$Text" "start" "I" "ProofCourt", Cond.fieldLinkNest "ProofCourt$Line" 29 "ProofCourt$Text" "number" "I" "ProofCourt", Cond.fieldLinkNest "ProofCourt$Clause" 28 "ProofCourt$Text" "number" "I" "ProofCourt", Cond.fieldLinkNest "ProofCourt$Formula" 42 "ProofCourt$Text" "number" "I" "ProofCourt", Cond.methodLinkNest "ProofCourt" 18 ⟨"ProofCourt$Proof", "<init>", "()V"⟩ "ProofCourt", Cond.fieldLinkNest "ProofCourt$Check" 74 "ProofCourt$Proof" "clauses" "[LProofCourt$Clause;" "ProofCourt", Cond.fieldLinkNest "ProofCourt$Check" 73 "ProofCourt$Proof" "size" "I" "ProofCourt", Cond.fieldLinkNest "ProofCourt" 64 "ProofCourt$Proof" "size" "I" "ProofCourt", Cond.fieldLinkNest "ProofCourt" 120 "ProofCourt$Proof" "addedEmpty" "Z" "ProofCourt", Cond.methodLinkNest "ProofCourt" 25 ⟨"ProofCourt$Search", "<init>", "()V"⟩ "ProofCourt", Cond.fieldLinkNest "ProofCourt" 124 "ProofCourt$Search" "reachedEmpty" "Z" "ProofCourt", Cond.fieldLinkNest "ProofCourt" 127 "ProofCourt$Search" "stepsHold" "Z" "ProofCourt", Cond.fieldLinkNest "ProofCourt" 80 "ProofCourt$Search" "known" "I" "ProofCourt", Cond.fieldLinkNest "ProofCourt$Search" 42 "ProofCourt$Formula" "variables" "I" "ProofCourt", Cond.fieldLinkNest "ProofCourt" 61 "ProofCourt$Formula" "variables" "I" "ProofCourt", Cond.fieldLinkNest "ProofCourt$Proof" 23 "ProofCourt$Formula" "clauses" "[LProofCourt$Clause;" "ProofCourt", Cond.fieldLinkNest "ProofCourt$Search" 34 "ProofCourt$Formula" "clauses" "[LProofCourt$Clause;" "ProofCourt", Cond.fieldLinkNest "ProofCourt$Search" 27 "ProofCourt$Formula" "size" "I" "ProofCourt", Cond.fieldLinkNest "ProofCourt$Proof" 17 "ProofCourt$Formula" "size" "I" "ProofCourt", Cond.fieldLinkNest "ProofCourt" 54 "ProofCourt$Formula" "size" "I" "ProofCourt", Cond.fieldLinkNest "ProofCourt$Proof" 32 "ProofCourt$Clause" "number" "I" "ProofCourt", Cond.fieldLinkNest "ProofCourt$Check" 78 "ProofCourt$Clause" "number" "I" "ProofCourt", Cond.fieldLinkNest "ProofCourt$Check" 67 "ProofCourt$Clause" "literals" "[I" "ProofCourt", Cond.fieldLinkNest "ProofCourt" 72 "ProofCourt$Clause" "literals" "[I" "ProofCourt", Cond.fieldLinkNest "ProofCourt$Check" 42 "ProofCourt$Clause" "size" "I" "ProofCourt", Cond.fieldLinkNest "ProofCourt$Proof" 64 "ProofCourt$Clause" "size" "I" "ProofCourt", Cond.fieldLinkNest "ProofCourt" 69 "ProofCourt$Clause" "size" "I" "ProofCourt", Cond.fieldLinkNest "ProofCourt$Check" 25 "ProofCourt$Clause" "mask" "I" "ProofCourt", Cond.fieldLinkNest "ProofCourt$Search" 37 "ProofCourt$Clause" "mask" "I" "ProofCourt", Cond.fieldLinkNest "ProofCourt$Formula" 67 "ProofCourt$Clause" "mask" "I" "ProofCourt", Cond.methodLinkNest "ProofCourt$Clause" 39 ⟨"ProofCourt", "bit", "(I)I"⟩ "ProofCourt", Cond.methodLinkNest "ProofCourt$Search" 79 ⟨"ProofCourt", "follow", "(II)I"⟩ "ProofCourt", Cond.methodLinkNest "ProofCourt$Search" 104 ⟨"ProofCourt", "opposites", "(I)I"⟩ "ProofCourt", Cond.methodLinkNest "ProofCourt$Search" 87 ⟨"ProofCourt", "bit", "(I)I"⟩ "ProofCourt", Cond.methodLinkNest "ProofCourt$Formula" 70 ⟨"ProofCourt", "follow", "(II)I"⟩ "ProofCourt", Cond.fieldLinkNest "ProofCourt$Proof" 50 "ProofCourt$Line" "number" "I" "ProofCourt", Cond.fieldLinkNest "ProofCourt$Check" 19 "ProofCourt$Line" "clause" "LProofCourt$Clause;" "ProofCourt", Cond.fieldLinkNest "ProofCourt$Proof" 60 "ProofCourt$Line" "clause" "LProofCourt$Clause;" "ProofCourt", Cond.fieldLinkNest "ProofCourt" 109 "ProofCourt$Line" "clause" "LProofCourt$Clause;" "ProofCourt", Cond.fieldLinkNest "ProofCourt$Check" 53 "ProofCourt$Line" "named" "[I" "ProofCourt", Cond.fieldLinkNest "ProofCourt$Proof" 38 "ProofCourt$Line" "named" "[I" "ProofCourt", Cond.fieldLinkNest "ProofCourt$Check" 52 "ProofCourt$Line" "size" "I" "ProofCourt", Cond.fieldLinkNest "ProofCourt$Proof" 35 "ProofCourt$Line" "size" "I" "ProofCourt", Cond.methodLinkNest "ProofCourt$Check" 31 ⟨"ProofCourt", "opposites", "(I)I"⟩ "ProofCourt", Cond.methodLinkNest "ProofCourt$Check" 63 ⟨"ProofCourt", "follow", "(II)I"⟩ "ProofCourt", Cond.methodLinkNest "ProofCourt$Check" 70 ⟨"ProofCourt", "bit", "(I)I"⟩ "ProofCourt"]
theorem hw_nest_at (j : Nat) {w : Cond} (h : hw_nest[j]? = some w) : w ∈ hw_nest := List.mem_of_getElem? h
def hw_sN : Nat := 4
def hw_sLen : List Nat := [1, 1, 3, 1]
def hw_sByt : List (List Int32) := [[99], [112], [99, 110, 102], [100]]
def hw_sR : List (String × Nat × String × Nat) := [("ProofCourt$Text", 75, "c", 0), ("ProofCourt$Formula", 30, "p", 1), ("ProofCourt$Formula", 36, "cnf", 2), ("ProofCourt$Line", 33, "d", 3)]
theorem hw_sR_at (j : Nat) {x : String × Nat × String × Nat} (h : hw_sR[j]? = some x) : x ∈ hw_sR := List.mem_of_getElem? h
abbrev cb_Co_init : ByteArray := prog_1_method_1_code
def ym_Co_init : MethodName := ⟨"ProofCourt", "<init>", "()V"⟩
abbrev mw_Co_init : List Cond := .code ym_Co_init cb_Co_init 1 none :: hw_all
abbrev cb_Te_init : ByteArray := prog_8_method_1_code
def ym_Te_init : MethodName := ⟨"ProofCourt$Text", "<init>", "()V"⟩
abbrev mw_Te_init : List Cond := .code ym_Te_init cb_Te_init 1 none :: hw_all
abbrev cb_Pr_init : ByteArray := prog_6_method_1_code
def ym_Pr_init : MethodName := ⟨"ProofCourt$Proof", "<init>", "()V"⟩
abbrev mw_Pr_init : List Cond := .code ym_Pr_init cb_Pr_init 1 none :: hw_all
abbrev cb_Se_init : ByteArray := prog_7_method_1_code
def ym_Se_init : MethodName := ⟨"ProofCourt$Search", "<init>", "()V"⟩
abbrev mw_Se_init : List Cond := .code ym_Se_init cb_Se_init 1 none :: hw_all
abbrev cb_Fo_init : ByteArray := prog_4_method_1_code
def ym_Fo_init : MethodName := ⟨"ProofCourt$Formula", "<init>", "(I)V"⟩
abbrev mw_Fo_init : List Cond := .code ym_Fo_init cb_Fo_init 2 none :: hw_all
abbrev cb_Co_take : ByteArray := prog_1_method_14_code
def ym_Co_take : MethodName := ⟨"ProofCourt", "take", "(LProofCourt$Formula;)V"⟩
abbrev mw_Co_take : List Cond := .code ym_Co_take cb_Co_take 2 none :: hw_all
abbrev cb_Pr_begin : ByteArray := prog_6_method_2_code
def ym_Pr_begin : MethodName := ⟨"ProofCourt$Proof", "begin", "(LProofCourt$Formula;)V"⟩
abbrev mw_Pr_begin : List Cond := .code ym_Pr_begin cb_Pr_begin 3 none :: hw_all
abbrev cb_Se_begin : ByteArray := prog_7_method_2_code
def ym_Se_begin : MethodName := ⟨"ProofCourt$Search", "begin", "(LProofCourt$Formula;)V"⟩
abbrev mw_Se_begin : List Cond := .code ym_Se_begin cb_Se_begin 3 none :: hw_all
abbrev cb_Co_type : ByteArray := prog_1_method_2_code
def ym_Co_type : MethodName := ⟨"ProofCourt", "type", "(II)Z"⟩
abbrev mw_Co_type : List Cond := .code ym_Co_type cb_Co_type 3 (some .boolean) :: hw_all
abbrev cb_Te_append : ByteArray := prog_8_method_2_code
def ym_Te_append : MethodName := ⟨"ProofCourt$Text", "append", "(II)Z"⟩
abbrev mw_Te_append : List Cond := .code ym_Te_append cb_Te_append 4 (some .boolean) :: hw_all
abbrev cb_Te_byteOf : ByteArray := prog_8_method_15_code
def ym_Te_byteOf : MethodName := ⟨"ProofCourt$Text", "byteOf", "(II)I"⟩
abbrev mw_Te_byteOf : List Cond := .code ym_Te_byteOf cb_Te_byteOf 2 (some .int) :: hw_all
abbrev cb_Te_isCharacter : ByteArray := prog_8_method_16_code
def ym_Te_isCharacter : MethodName := ⟨"ProofCourt$Text", "isCharacter", "(I)Z"⟩
abbrev mw_Te_isCharacter : List Cond := .code ym_Te_isCharacter cb_Te_isCharacter 1 (some .boolean) :: hw_all
abbrev cb_Co_read : ByteArray := prog_1_method_3_code
def ym_Co_read : MethodName := ⟨"ProofCourt", "read", "()I"⟩
abbrev mw_Co_read : List Cond := .code ym_Co_read cb_Co_read 3 (some .int) :: hw_all
abbrev cb_Fo_formulaIn : ByteArray := prog_4_method_2_code
def ym_Fo_formulaIn : MethodName := ⟨"ProofCourt$Formula", "formulaIn", "(LProofCourt$Text;)LProofCourt$Formula;"⟩
abbrev mw_Fo_formulaIn : List Cond := .code ym_Fo_formulaIn cb_Fo_formulaIn 2 (some (.object "ProofCourt$Formula")) :: hw_all
abbrev cb_Te_rewind : ByteArray := prog_8_method_4_code
def ym_Te_rewind : MethodName := ⟨"ProofCourt$Text", "rewind", "(Z)V"⟩
abbrev mw_Te_rewind : List Cond := .code ym_Te_rewind cb_Te_rewind 2 none :: hw_all
abbrev cb_Te_advance : ByteArray := prog_8_method_5_code
def ym_Te_advance : MethodName := ⟨"ProofCourt$Text", "advance", "()V"⟩
abbrev mw_Te_advance : List Cond := .code ym_Te_advance cb_Te_advance 2 none :: hw_all
abbrev cb_Te_standBehind : ByteArray := prog_8_method_11_code
def ym_Te_standBehind : MethodName := ⟨"ProofCourt$Text", "standBehind", "(I)V"⟩
abbrev mw_Te_standBehind : List Cond := .code ym_Te_standBehind cb_Te_standBehind 2 none :: hw_all
abbrev cb_Te_isBlank : ByteArray := prog_8_method_17_code
def ym_Te_isBlank : MethodName := ⟨"ProofCourt$Text", "isBlank", "(C)Z"⟩
abbrev mw_Te_isBlank : List Cond := .code ym_Te_isBlank cb_Te_isBlank 1 (some .boolean) :: hw_all
abbrev cb_Te_isRemark : ByteArray := prog_8_method_12_code
def ym_Te_isRemark : MethodName := ⟨"ProofCourt$Text", "isRemark", "()Z"⟩
abbrev mw_Te_isRemark : List Cond := .code ym_Te_isRemark cb_Te_isRemark 1 (some .boolean) :: hw_all
abbrev cb_Te_isWord : ByteArray := prog_8_method_7_code
def ym_Te_isWord : MethodName := ⟨"ProofCourt$Text", "isWord", "(Ljava/lang/String;)Z"⟩
abbrev mw_Te_isWord : List Cond := .code ym_Te_isWord cb_Te_isWord 3 (some .boolean) :: hw_all
abbrev cb_St_length : ByteArray := prog_12_method_54_code
def ym_St_length : MethodName := ⟨"java/lang/String", "length", "()I"⟩
abbrev mw_St_length : List Cond := .code ym_St_length cb_St_length 1 (some .int) :: hw_all
abbrev cb_St_coder : ByteArray := prog_12_method_152_code
def ym_St_coder : MethodName := ⟨"java/lang/String", "coder", "()B"⟩
abbrev mw_St_coder : List Cond := .code ym_St_coder cb_St_coder 1 (some .byte) :: hw_all
abbrev cb_St_charAt : ByteArray := prog_12_method_56_code
def ym_St_charAt : MethodName := ⟨"java/lang/String", "charAt", "(I)C"⟩
abbrev mw_St_charAt : List Cond := .code ym_St_charAt cb_St_charAt 2 (some .char) :: hw_all
abbrev cb_St_isLatin1 : ByteArray := prog_12_method_154_code
def ym_St_isLatin1 : MethodName := ⟨"java/lang/String", "isLatin1", "()Z"⟩
abbrev mw_St_isLatin1 : List Cond := .code ym_St_isLatin1 cb_St_isLatin1 1 (some .boolean) :: hw_all
abbrev cb_Sl_charAt : ByteArray := prog_13_method_2_code
def ym_Sl_charAt : MethodName := ⟨"java/lang/StringLatin1", "charAt", "([BI)C"⟩
abbrev mw_Sl_charAt : List Cond := .code ym_Sl_charAt cb_Sl_charAt 2 (some .char) :: hw_all
abbrev cb_St_checkIndex : ByteArray := prog_12_method_155_code
def ym_St_checkIndex : MethodName := ⟨"java/lang/String", "checkIndex", "(II)V"⟩
abbrev mw_St_checkIndex : List Cond := .code ym_St_checkIndex cb_St_checkIndex 2 none :: hw_all
abbrev cb_Pc_checkIndex : ByteArray := prog_15_method_11_code
def ym_Pc_checkIndex : MethodName := ⟨"jdk/internal/util/Preconditions", "checkIndex", "(IILjava/util/function/BiFunction;)I"⟩
abbrev mw_Pc_checkIndex : List Cond := .code ym_Pc_checkIndex cb_Pc_checkIndex 3 (some .int) :: hw_all
abbrev cb_Su_charAt : ByteArray := prog_14_method_83_code
def ym_Su_charAt : MethodName := ⟨"java/lang/StringUTF16", "charAt", "([BI)C"⟩
abbrev mw_Su_charAt : List Cond := .code ym_Su_charAt cb_Su_charAt 2 (some .char) :: hw_all
abbrev cb_Su_checkIndex : ByteArray := prog_14_method_91_code
def ym_Su_checkIndex : MethodName := ⟨"java/lang/StringUTF16", "checkIndex", "(I[B)V"⟩
abbrev mw_Su_checkIndex : List Cond := .code ym_Su_checkIndex cb_Su_checkIndex 2 none :: hw_all
abbrev cb_Su_length : ByteArray := prog_14_method_6_code
def ym_Su_length : MethodName := ⟨"java/lang/StringUTF16", "length", "([B)I"⟩
abbrev mw_Su_length : List Cond := .code ym_Su_length cb_Su_length 1 (some .int) :: hw_all
abbrev cb_Su_getChar : ByteArray := prog_14_method_5_code
def ym_Su_getChar : MethodName := ⟨"java/lang/StringUTF16", "getChar", "([BI)C"⟩
abbrev mw_Su_getChar : List Cond := .code ym_Su_getChar cb_Su_getChar 2 (some .char) :: hw_all
abbrev cb_Te_beginsLine : ByteArray := prog_8_method_13_code
def ym_Te_beginsLine : MethodName := ⟨"ProofCourt$Text", "beginsLine", "()Z"⟩
abbrev mw_Te_beginsLine : List Cond := .code ym_Te_beginsLine cb_Te_beginsLine 2 (some .boolean) :: hw_all
abbrev cb_Te_lineEnd : ByteArray := prog_8_method_14_code
def ym_Te_lineEnd : MethodName := ⟨"ProofCourt$Text", "lineEnd", "()I"⟩
abbrev mw_Te_lineEnd : List Cond := .code ym_Te_lineEnd cb_Te_lineEnd 2 (some .int) :: hw_all
abbrev cb_Te_passesWord : ByteArray := prog_8_method_9_code
def ym_Te_passesWord : MethodName := ⟨"ProofCourt$Text", "passesWord", "(Ljava/lang/String;)Z"⟩
abbrev mw_Te_passesWord : List Cond := .code ym_Te_passesWord cb_Te_passesWord 2 (some .boolean) :: hw_all
abbrev cb_Te_passesNumber : ByteArray := prog_8_method_10_code
def ym_Te_passesNumber : MethodName := ⟨"ProofCourt$Text", "passesNumber", "(II)Z"⟩
abbrev mw_Te_passesNumber : List Cond := .code ym_Te_passesNumber cb_Te_passesNumber 3 (some .boolean) :: hw_all
abbrev cb_Te_isNumber : ByteArray := prog_8_method_8_code
def ym_Te_isNumber : MethodName := ⟨"ProofCourt$Text", "isNumber", "(II)Z"⟩
abbrev mw_Te_isNumber : List Cond := .code ym_Te_isNumber cb_Te_isNumber 7 (some .boolean) :: hw_all
abbrev cb_Fo_takesClauses : ByteArray := prog_4_method_3_code
def ym_Fo_takesClauses : MethodName := ⟨"ProofCourt$Formula", "takesClauses", "(LProofCourt$Text;I)Z"⟩
abbrev mw_Fo_takesClauses : List Cond := .code ym_Fo_takesClauses cb_Fo_takesClauses 5 (some .boolean) :: hw_all
abbrev cb_Cl_clauseIn : ByteArray := prog_3_method_2_code
def ym_Cl_clauseIn : MethodName := ⟨"ProofCourt$Clause", "clauseIn", "(LProofCourt$Text;II)LProofCourt$Clause;"⟩
abbrev mw_Cl_clauseIn : List Cond := .code ym_Cl_clauseIn cb_Cl_clauseIn 6 (some (.object "ProofCourt$Clause")) :: hw_all
abbrev cb_Cl_init : ByteArray := prog_3_method_1_code
def ym_Cl_init : MethodName := ⟨"ProofCourt$Clause", "<init>", "(I)V"⟩
abbrev mw_Cl_init : List Cond := .code ym_Cl_init cb_Cl_init 2 none :: hw_all
abbrev cb_Cl_accept : ByteArray := prog_3_method_3_code
def ym_Cl_accept : MethodName := ⟨"ProofCourt$Clause", "accept", "(I)Z"⟩
abbrev mw_Cl_accept : List Cond := .code ym_Cl_accept cb_Cl_accept 2 (some .boolean) :: hw_all
abbrev cb_Co_bit : ByteArray := prog_1_method_16_code
def ym_Co_bit : MethodName := ⟨"ProofCourt", "bit", "(I)I"⟩
abbrev mw_Co_bit : List Cond := .code ym_Co_bit cb_Co_bit 1 (some .int) :: hw_all
abbrev cb_Te_isAtEnd : ByteArray := prog_8_method_6_code
def ym_Te_isAtEnd : MethodName := ⟨"ProofCourt$Text", "isAtEnd", "()Z"⟩
abbrev mw_Te_isAtEnd : List Cond := .code ym_Te_isAtEnd cb_Te_isAtEnd 1 (some .boolean) :: hw_all
abbrev cb_Te_clear : ByteArray := prog_8_method_3_code
def ym_Te_clear : MethodName := ⟨"ProofCourt$Text", "clear", "()V"⟩
abbrev mw_Te_clear : List Cond := .code ym_Te_clear cb_Te_clear 1 none :: hw_all
abbrev cb_Co_variables : ByteArray := prog_1_method_4_code
def ym_Co_variables : MethodName := ⟨"ProofCourt", "variables", "()I"⟩
abbrev mw_Co_variables : List Cond := .code ym_Co_variables cb_Co_variables 1 (some .int) :: hw_all
abbrev cb_Co_live : ByteArray := prog_1_method_5_code
def ym_Co_live : MethodName := ⟨"ProofCourt", "live", "()I"⟩
abbrev mw_Co_live : List Cond := .code ym_Co_live cb_Co_live 1 (some .int) :: hw_all
abbrev cb_Co_literal : ByteArray := prog_1_method_6_code
def ym_Co_literal : MethodName := ⟨"ProofCourt", "literal", "(II)I"⟩
abbrev mw_Co_literal : List Cond := .code ym_Co_literal cb_Co_literal 4 (some .int) :: hw_all
abbrev cb_Pr_find : ByteArray := prog_6_method_3_code
def ym_Pr_find : MethodName := ⟨"ProofCourt$Proof", "find", "(I)LProofCourt$Clause;"⟩
abbrev mw_Pr_find : List Cond := .code ym_Pr_find cb_Pr_find 3 (some (.object "ProofCourt$Clause")) :: hw_all
abbrev cb_Co_solve : ByteArray := prog_1_method_7_code
def ym_Co_solve : MethodName := ⟨"ProofCourt", "solve", "()I"⟩
abbrev mw_Co_solve : List Cond := .code ym_Co_solve cb_Co_solve 1 (some .int) :: hw_all
abbrev cb_Se_finds : ByteArray := prog_7_method_3_code
def ym_Se_finds : MethodName := ⟨"ProofCourt$Search", "finds", "()Z"⟩
abbrev mw_Se_finds : List Cond := .code ym_Se_finds cb_Se_finds 3 (some .boolean) :: hw_all
abbrev cb_Se_propagate : ByteArray := prog_7_method_4_code
def ym_Se_propagate : MethodName := ⟨"ProofCourt$Search", "propagate", "()I"⟩
abbrev mw_Se_propagate : List Cond := .code ym_Se_propagate cb_Se_propagate 5 (some .int) :: hw_all
abbrev cb_Co_follow : ByteArray := prog_1_method_18_code
def ym_Co_follow : MethodName := ⟨"ProofCourt", "follow", "(II)I"⟩
abbrev mw_Co_follow : List Cond := .code ym_Co_follow cb_Co_follow 3 (some .int) :: hw_all
abbrev cb_Co_opposites : ByteArray := prog_1_method_17_code
def ym_Co_opposites : MethodName := ⟨"ProofCourt", "opposites", "(I)I"⟩
abbrev mw_Co_opposites : List Cond := .code ym_Co_opposites cb_Co_opposites 1 (some .int) :: hw_all
abbrev cb_In_bitCount : ByteArray := prog_11_method_49_code
def ym_In_bitCount : MethodName := ⟨"java/lang/Integer", "bitCount", "(I)I"⟩
abbrev mw_In_bitCount : List Cond := .code ym_In_bitCount cb_In_bitCount 1 (some .int) :: hw_all
abbrev cb_Se_assume : ByteArray := prog_7_method_5_code
def ym_Se_assume : MethodName := ⟨"ProofCourt$Search", "assume", "(II)V"⟩
abbrev mw_Se_assume : List Cond := .code ym_Se_assume cb_Se_assume 3 none :: hw_all
abbrev cb_Se_resolve : ByteArray := prog_7_method_7_code
def ym_Se_resolve : MethodName := ⟨"ProofCourt$Search", "resolve", "(I)V"⟩
abbrev mw_Se_resolve : List Cond := .code ym_Se_resolve cb_Se_resolve 3 none :: hw_all
abbrev cb_Se_learn : ByteArray := prog_7_method_8_code
def ym_Se_learn : MethodName := ⟨"ProofCourt$Search", "learn", "(I)I"⟩
abbrev mw_Se_learn : List Cond := .code ym_Se_learn cb_Se_learn 5 (some .int) :: hw_all
abbrev cb_Se_isKept : ByteArray := prog_7_method_9_code
def ym_Se_isKept : MethodName := ⟨"ProofCourt$Search", "isKept", "(II)Z"⟩
abbrev mw_Se_isKept : List Cond := .code ym_Se_isKept cb_Se_isKept 4 (some .boolean) :: hw_all
abbrev cb_Se_stepHolds : ByteArray := prog_7_method_10_code
def ym_Se_stepHolds : MethodName := ⟨"ProofCourt$Search", "stepHolds", "(I)Z"⟩
abbrev mw_Se_stepHolds : List Cond := .code ym_Se_stepHolds cb_Se_stepHolds 5 (some .boolean) :: hw_all
abbrev cb_Se_jumpBack : ByteArray := prog_7_method_11_code
def ym_Se_jumpBack : MethodName := ⟨"ProofCourt$Search", "jumpBack", "(I)V"⟩
abbrev mw_Se_jumpBack : List Cond := .code ym_Se_jumpBack cb_Se_jumpBack 4 none :: hw_all
abbrev cb_Se_decide : ByteArray := prog_7_method_6_code
def ym_Se_decide : MethodName := ⟨"ProofCourt$Search", "decide", "()V"⟩
abbrev mw_Se_decide : List Cond := .code ym_Se_decide cb_Se_decide 2 none :: hw_all
abbrev cb_Co_value : ByteArray := prog_1_method_8_code
def ym_Co_value : MethodName := ⟨"ProofCourt", "value", "(I)I"⟩
abbrev mw_Co_value : List Cond := .code ym_Co_value cb_Co_value 2 (some .int) :: hw_all
abbrev cb_Co_count : ByteArray := prog_1_method_9_code
def ym_Co_count : MethodName := ⟨"ProofCourt", "count", "()I"⟩
abbrev mw_Co_count : List Cond := .code ym_Co_count cb_Co_count 1 (some .int) :: hw_all
abbrev cb_Fo_satisfying : ByteArray := prog_4_method_4_code
def ym_Fo_satisfying : MethodName := ⟨"ProofCourt$Formula", "satisfying", "()I"⟩
abbrev mw_Fo_satisfying : List Cond := .code ym_Fo_satisfying cb_Fo_satisfying 3 (some .int) :: hw_all
abbrev cb_Fo_isSatisfied : ByteArray := prog_4_method_5_code
def ym_Fo_isSatisfied : MethodName := ⟨"ProofCourt$Formula", "isSatisfied", "(I)Z"⟩
abbrev mw_Fo_isSatisfied : List Cond := .code ym_Fo_isSatisfied cb_Fo_isSatisfied 3 (some .boolean) :: hw_all
abbrev cb_Co_forced : ByteArray := prog_1_method_10_code
def ym_Co_forced : MethodName := ⟨"ProofCourt", "forced", "(II)I"⟩
abbrev mw_Co_forced : List Cond := .code ym_Co_forced cb_Co_forced 4 (some .int) :: hw_all
abbrev cb_Co_isLiteralOrNone : ByteArray := prog_1_method_15_code
def ym_Co_isLiteralOrNone : MethodName := ⟨"ProofCourt", "isLiteralOrNone", "(I)Z"⟩
abbrev mw_Co_isLiteralOrNone : List Cond := .code ym_Co_isLiteralOrNone cb_Co_isLiteralOrNone 2 (some .boolean) :: hw_all
abbrev cb_Fo_forcedBy : ByteArray := prog_4_method_6_code
def ym_Fo_forcedBy : MethodName := ⟨"ProofCourt$Formula", "forcedBy", "(I)I"⟩
abbrev mw_Fo_forcedBy : List Cond := .code ym_Fo_forcedBy cb_Fo_forcedBy 7 (some .int) :: hw_all
abbrev cb_Co_line : ByteArray := prog_1_method_11_code
def ym_Co_line : MethodName := ⟨"ProofCourt", "line", "()I"⟩
abbrev mw_Co_line : List Cond := .code ym_Co_line cb_Co_line 3 (some .int) :: hw_all
abbrev cb_Li_lineIn : ByteArray := prog_5_method_2_code
def ym_Li_lineIn : MethodName := ⟨"ProofCourt$Line", "lineIn", "(LProofCourt$Text;I)LProofCourt$Line;"⟩
abbrev mw_Li_lineIn : List Cond := .code ym_Li_lineIn cb_Li_lineIn 4 (some (.object "ProofCourt$Line")) :: hw_all
abbrev cb_Li_init : ByteArray := prog_5_method_1_code
def ym_Li_init : MethodName := ⟨"ProofCourt$Line", "<init>", "(I)V"⟩
abbrev mw_Li_init : List Cond := .code ym_Li_init cb_Li_init 2 none :: hw_all
abbrev cb_Li_takesNamed : ByteArray := prog_5_method_4_code
def ym_Li_takesNamed : MethodName := ⟨"ProofCourt$Line", "takesNamed", "(LProofCourt$Text;I)Z"⟩
abbrev mw_Li_takesNamed : List Cond := .code ym_Li_takesNamed cb_Li_takesNamed 5 (some .boolean) :: hw_all
abbrev cb_Li_takesClause : ByteArray := prog_5_method_3_code
def ym_Li_takesClause : MethodName := ⟨"ProofCourt$Line", "takesClause", "(LProofCourt$Text;I)Z"⟩
abbrev mw_Li_takesClause : List Cond := .code ym_Li_takesClause cb_Li_takesClause 3 (some .boolean) :: hw_all
abbrev cb_Pr_delete : ByteArray := prog_6_method_4_code
def ym_Pr_delete : MethodName := ⟨"ProofCourt$Proof", "delete", "(LProofCourt$Line;)I"⟩
abbrev mw_Pr_delete : List Cond := .code ym_Pr_delete cb_Pr_delete 4 (some .int) :: hw_all
abbrev cb_Li_names : ByteArray := prog_5_method_5_code
def ym_Li_names : MethodName := ⟨"ProofCourt$Line", "names", "(II)Z"⟩
abbrev mw_Li_names : List Cond := .code ym_Li_names cb_Li_names 4 (some .boolean) :: hw_all
abbrev cb_Pr_add : ByteArray := prog_6_method_5_code
def ym_Pr_add : MethodName := ⟨"ProofCourt$Proof", "add", "(LProofCourt$Line;)I"⟩
abbrev mw_Pr_add : List Cond := .code ym_Pr_add cb_Pr_add 3 (some .int) :: hw_all
abbrev cb_Ck_init : ByteArray := prog_2_method_1_code
def ym_Ck_init : MethodName := ⟨"ProofCourt$Check", "<init>", "(LProofCourt$Proof;LProofCourt$Line;)V"⟩
abbrev mw_Ck_init : List Cond := .code ym_Ck_init cb_Ck_init 3 none :: hw_all
abbrev cb_Ck_outcome : ByteArray := prog_2_method_2_code
def ym_Ck_outcome : MethodName := ⟨"ProofCourt$Check", "outcome", "()I"⟩
abbrev mw_Ck_outcome : List Cond := .code ym_Ck_outcome cb_Ck_outcome 3 (some .int) :: hw_all
abbrev cb_Ck_followHints : ByteArray := prog_2_method_3_code
def ym_Ck_followHints : MethodName := ⟨"ProofCourt$Check", "followHints", "()I"⟩
abbrev mw_Ck_followHints : List Cond := .code ym_Ck_followHints cb_Ck_followHints 3 (some .int) :: hw_all
abbrev cb_Ck_groupsHold : ByteArray := prog_2_method_4_code
def ym_Ck_groupsHold : MethodName := ⟨"ProofCourt$Check", "groupsHold", "()Z"⟩
abbrev mw_Ck_groupsHold : List Cond := .code ym_Ck_groupsHold cb_Ck_groupsHold 6 (some .boolean) :: hw_all
abbrev cb_Ck_skipHints : ByteArray := prog_2_method_5_code
def ym_Ck_skipHints : MethodName := ⟨"ProofCourt$Check", "skipHints", "()V"⟩
abbrev mw_Ck_skipHints : List Cond := .code ym_Ck_skipHints cb_Ck_skipHints 1 none :: hw_all
abbrev cb_Co_refuted : ByteArray := prog_1_method_12_code
def ym_Co_refuted : MethodName := ⟨"ProofCourt", "refuted", "()Z"⟩
abbrev mw_Co_refuted : List Cond := .code ym_Co_refuted cb_Co_refuted 1 (some .boolean) :: hw_all
abbrev cb_Co_proves : ByteArray := prog_1_method_13_code
def ym_Co_proves : MethodName := ⟨"ProofCourt", "proves", "()Z"⟩
abbrev mw_Co_proves : List Cond := .code ym_Co_proves cb_Co_proves 1 (some .boolean) :: hw_all
abbrev cb_Mo_init : ByteArray := prog_10_method_1_code
def ym_Mo_init : MethodName := ⟨"ProofCourtModel", "<init>", "()V"⟩
abbrev mw_Mo_init : List Cond := .code ym_Mo_init cb_Mo_init 1 none :: hw_all
abbrev cb_Mo_type : ByteArray := prog_10_method_3_code
def ym_Mo_type : MethodName := ⟨"ProofCourtModel", "type", "(II)Z"⟩
abbrev mw_Mo_type : List Cond := .code ym_Mo_type cb_Mo_type 6 (some .boolean) :: hw_all
abbrev cb_Mo_in : ByteArray := prog_10_method_2_code
def ym_Mo_in : MethodName := ⟨"ProofCourtModel", "in", "(III)Z"⟩
abbrev mw_Mo_in : List Cond := .code ym_Mo_in cb_Mo_in 3 (some .boolean) :: hw_all
abbrev cb_Mo_read : ByteArray := prog_10_method_16_code
def ym_Mo_read : MethodName := ⟨"ProofCourtModel", "read", "()I"⟩
abbrev mw_Mo_read : List Cond := .code ym_Mo_read cb_Mo_read 4 (some .int) :: hw_all
abbrev cb_Mo_cut : ByteArray := prog_10_method_5_code
def ym_Mo_cut : MethodName := ⟨"ProofCourtModel", "cut", "(Z)V"⟩
abbrev mw_Mo_cut : List Cond := .code ym_Mo_cut cb_Mo_cut 6 none :: hw_all
abbrev cb_Mo_isGap : ByteArray := prog_10_method_4_code
def ym_Mo_isGap : MethodName := ⟨"ProofCourtModel", "isGap", "(I)Z"⟩
abbrev mw_Mo_isGap : List Cond := .code ym_Mo_isGap cb_Mo_isGap 2 (some .boolean) :: hw_all
abbrev cb_Mo_expect : ByteArray := prog_10_method_8_code
def ym_Mo_expect : MethodName := ⟨"ProofCourtModel", "expect", "(III)V"⟩
abbrev mw_Mo_expect : List Cond := .code ym_Mo_expect cb_Mo_expect 4 none :: hw_all
abbrev cb_Mo_isWord : ByteArray := prog_10_method_7_code
def ym_Mo_isWord : MethodName := ⟨"ProofCourtModel", "isWord", "(III)Z"⟩
abbrev mw_Mo_isWord : List Cond := .code ym_Mo_isWord cb_Mo_isWord 6 (some .boolean) :: hw_all
abbrev cb_Mo_fail : ByteArray := prog_10_method_6_code
def ym_Mo_fail : MethodName := ⟨"ProofCourtModel", "fail", "()V"⟩
abbrev mw_Mo_fail : List Cond := .code ym_Mo_fail cb_Mo_fail 1 none :: hw_all
abbrev cb_Mo_take : ByteArray := prog_10_method_11_code
def ym_Mo_take : MethodName := ⟨"ProofCourtModel", "take", "(II)I"⟩
abbrev mw_Mo_take : List Cond := .code ym_Mo_take cb_Mo_take 4 (some .int) :: hw_all
abbrev cb_Mo_isNumber : ByteArray := prog_10_method_9_code
def ym_Mo_isNumber : MethodName := ⟨"ProofCourtModel", "isNumber", "(II)Z"⟩
abbrev mw_Mo_isNumber : List Cond := .code ym_Mo_isNumber cb_Mo_isNumber 7 (some .boolean) :: hw_all
abbrev cb_Mo_worth : ByteArray := prog_10_method_10_code
def ym_Mo_worth : MethodName := ⟨"ProofCourtModel", "worth", "()I"⟩
abbrev mw_Mo_worth : List Cond := .code ym_Mo_worth cb_Mo_worth 4 (some .int) :: hw_all
abbrev cb_Mo_readClause : ByteArray := prog_10_method_15_code
def ym_Mo_readClause : MethodName := ⟨"ProofCourtModel", "readClause", "(II)V"⟩
abbrev mw_Mo_readClause : List Cond := .code ym_Mo_readClause cb_Mo_readClause 6 none :: hw_all
abbrev cb_Mo_hasLiteral : ByteArray := prog_10_method_13_code
def ym_Mo_hasLiteral : MethodName := ⟨"ProofCourtModel", "hasLiteral", "(II)Z"⟩
abbrev mw_Mo_hasLiteral : List Cond := .code ym_Mo_hasLiteral cb_Mo_hasLiteral 5 (some .boolean) :: hw_all
abbrev cb_Mo_literalOf : ByteArray := prog_10_method_12_code
def ym_Mo_literalOf : MethodName := ⟨"ProofCourtModel", "literalOf", "(II)I"⟩
abbrev mw_Mo_literalOf : List Cond := .code ym_Mo_literalOf cb_Mo_literalOf 3 (some .int) :: hw_all
abbrev cb_Mo_copy : ByteArray := prog_10_method_14_code
def ym_Mo_copy : MethodName := ⟨"ProofCourtModel", "copy", "(II)V"⟩
abbrev mw_Mo_copy : List Cond := .code ym_Mo_copy cb_Mo_copy 4 none :: hw_all
abbrev cb_Mo_variables : ByteArray := prog_10_method_17_code
def ym_Mo_variables : MethodName := ⟨"ProofCourtModel", "variables", "()I"⟩
abbrev mw_Mo_variables : List Cond := .code ym_Mo_variables cb_Mo_variables 1 (some .int) :: hw_all
abbrev cb_Mo_live : ByteArray := prog_10_method_18_code
def ym_Mo_live : MethodName := ⟨"ProofCourtModel", "live", "()I"⟩
abbrev mw_Mo_live : List Cond := .code ym_Mo_live cb_Mo_live 1 (some .int) :: hw_all
abbrev cb_Mo_literal : ByteArray := prog_10_method_20_code
def ym_Mo_literal : MethodName := ⟨"ProofCourtModel", "literal", "(II)I"⟩
abbrev mw_Mo_literal : List Cond := .code ym_Mo_literal cb_Mo_literal 4 (some .int) :: hw_all
abbrev cb_Mo_find : ByteArray := prog_10_method_19_code
def ym_Mo_find : MethodName := ⟨"ProofCourtModel", "find", "(I)I"⟩
abbrev mw_Mo_find : List Cond := .code ym_Mo_find cb_Mo_find 4 (some .int) :: hw_all
abbrev cb_Mo_solve : ByteArray := prog_10_method_24_code
def ym_Mo_solve : MethodName := ⟨"ProofCourtModel", "solve", "()I"⟩
abbrev mw_Mo_solve : List Cond := .code ym_Mo_solve cb_Mo_solve 1 (some .int) :: hw_all
abbrev cb_Mo_least : ByteArray := prog_10_method_23_code
def ym_Mo_least : MethodName := ⟨"ProofCourtModel", "least", "()I"⟩
abbrev mw_Mo_least : List Cond := .code ym_Mo_least cb_Mo_least 3 (some .int) :: hw_all
abbrev cb_Mo_satisfies : ByteArray := prog_10_method_22_code
def ym_Mo_satisfies : MethodName := ⟨"ProofCourtModel", "satisfies", "(I)Z"⟩
abbrev mw_Mo_satisfies : List Cond := .code ym_Mo_satisfies cb_Mo_satisfies 6 (some .boolean) :: hw_all
abbrev cb_Mo_isTrue : ByteArray := prog_10_method_21_code
def ym_Mo_isTrue : MethodName := ⟨"ProofCourtModel", "isTrue", "(II)Z"⟩
abbrev mw_Mo_isTrue : List Cond := .code ym_Mo_isTrue cb_Mo_isTrue 4 (some .boolean) :: hw_all
abbrev cb_Mo_value : ByteArray := prog_10_method_25_code
def ym_Mo_value : MethodName := ⟨"ProofCourtModel", "value", "(I)I"⟩
abbrev mw_Mo_value : List Cond := .code ym_Mo_value cb_Mo_value 3 (some .int) :: hw_all
abbrev cb_Mo_count : ByteArray := prog_10_method_26_code
def ym_Mo_count : MethodName := ⟨"ProofCourtModel", "count", "()I"⟩
abbrev mw_Mo_count : List Cond := .code ym_Mo_count cb_Mo_count 3 (some .int) :: hw_all
abbrev cb_Mo_proves : ByteArray := prog_10_method_27_code
def ym_Mo_proves : MethodName := ⟨"ProofCourtModel", "proves", "()Z"⟩
abbrev mw_Mo_proves : List Cond := .code ym_Mo_proves cb_Mo_proves 1 (some .boolean) :: hw_all
abbrev cb_Mo_forced : ByteArray := prog_10_method_30_code
def ym_Mo_forced : MethodName := ⟨"ProofCourtModel", "forced", "(II)I"⟩
abbrev mw_Mo_forced : List Cond := .code ym_Mo_forced cb_Mo_forced 6 (some .int) :: hw_all
abbrev cb_Mo_forget : ByteArray := prog_10_method_28_code
def ym_Mo_forget : MethodName := ⟨"ProofCourtModel", "forget", "()V"⟩
abbrev mw_Mo_forget : List Cond := .code ym_Mo_forget cb_Mo_forget 2 none :: hw_all
abbrev cb_Mo_told : ByteArray := prog_10_method_29_code
def ym_Mo_told : MethodName := ⟨"ProofCourtModel", "told", "(I)I"⟩
abbrev mw_Mo_told : List Cond := .code ym_Mo_told cb_Mo_told 6 (some .int) :: hw_all
abbrev cb_Mo_line : ByteArray := prog_10_method_32_code
def ym_Mo_line : MethodName := ⟨"ProofCourtModel", "line", "()I"⟩
abbrev mw_Mo_line : List Cond := .code ym_Mo_line cb_Mo_line 3 (some .int) :: hw_all
abbrev cb_Mo_readHints : ByteArray := prog_10_method_31_code
def ym_Mo_readHints : MethodName := ⟨"ProofCourtModel", "readHints", "(I)V"⟩
abbrev mw_Mo_readHints : List Cond := .code ym_Mo_readHints cb_Mo_readHints 5 none :: hw_all
abbrev cb_Mo_delete : ByteArray := prog_10_method_33_code
def ym_Mo_delete : MethodName := ⟨"ProofCourtModel", "delete", "()I"⟩
abbrev mw_Mo_delete : List Cond := .code ym_Mo_delete cb_Mo_delete 4 (some .int) :: hw_all
abbrev cb_Mo_add : ByteArray := prog_10_method_34_code
def ym_Mo_add : MethodName := ⟨"ProofCourtModel", "add", "(I)I"⟩
abbrev mw_Mo_add : List Cond := .code ym_Mo_add cb_Mo_add 2 (some .int) :: hw_all
abbrev cb_Mo_holds : ByteArray := prog_10_method_36_code
def ym_Mo_holds : MethodName := ⟨"ProofCourtModel", "holds", "()Z"⟩
abbrev mw_Mo_holds : List Cond := .code ym_Mo_holds cb_Mo_holds 3 (some .boolean) :: hw_all
abbrev cb_Mo_follow : ByteArray := prog_10_method_35_code
def ym_Mo_follow : MethodName := ⟨"ProofCourtModel", "follow", "()I"⟩
abbrev mw_Mo_follow : List Cond := .code ym_Mo_follow cb_Mo_follow 4 (some .int) :: hw_all
abbrev cb_Mo_groupsHold : ByteArray := prog_10_method_37_code
def ym_Mo_groupsHold : MethodName := ⟨"ProofCourtModel", "groupsHold", "(I)Z"⟩
abbrev mw_Mo_groupsHold : List Cond := .code ym_Mo_groupsHold cb_Mo_groupsHold 3 (some .boolean) :: hw_all
abbrev cb_Mo_suppose : ByteArray := prog_10_method_38_code
def ym_Mo_suppose : MethodName := ⟨"ProofCourtModel", "suppose", "(II)Z"⟩
abbrev mw_Mo_suppose : List Cond := .code ym_Mo_suppose cb_Mo_suppose 5 (some .boolean) :: hw_all
abbrev cb_Mo_refuted : ByteArray := prog_10_method_39_code
def ym_Mo_refuted : MethodName := ⟨"ProofCourtModel", "refuted", "()Z"⟩
abbrev mw_Mo_refuted : List Cond := .code ym_Mo_refuted cb_Mo_refuted 1 (some .boolean) :: hw_all
abbrev cb_La_law : ByteArray := code
end
section
theorem dd_Te_byteOf_0 : decode cb_Te_byteOf 0 = .ok (.iload_n 0, 1) := by decide +kernel
theorem dd_Te_byteOf_1 : decode cb_Te_byteOf 1 = .ok (.bipush 8, 2) := by decide +kernel
theorem dd_Te_byteOf_3 : decode cb_Te_byteOf 3 = .ok (.iload_n 1, 1) := by decide +kernel
theorem dd_Te_byteOf_4 : decode cb_Te_byteOf 4 = .ok (.imul, 1) := by decide +kernel
theorem dd_Te_byteOf_5 : decode cb_Te_byteOf 5 = .ok (.ishr, 1) := by decide +kernel
theorem dd_Te_byteOf_6 : decode cb_Te_byteOf 6 = .ok (.sipush 255, 3) := by decide +kernel
theorem dd_Te_byteOf_9 : decode cb_Te_byteOf 9 = .ok (.iand, 1) := by decide +kernel
theorem dd_Te_byteOf_10 : decode cb_Te_byteOf 10 = .ok (.ireturn, 1) := by decide +kernel
theorem dd_Te_isCharacter_0 : decode cb_Te_isCharacter 0 = .ok (.iload_n 0, 1) := by decide +kernel
theorem dd_Te_isCharacter_1 : decode cb_Te_isCharacter 1 = .ok (.bipush 10, 2) := by decide +kernel
theorem dd_Te_isCharacter_3 : decode cb_Te_isCharacter 3 = .ok (.if_icmp .eq 15, 3) := by decide +kernel
theorem dd_Te_isCharacter_6 : decode cb_Te_isCharacter 6 = .ok (.iload_n 0, 1) := by decide +kernel
theorem dd_Te_isCharacter_7 : decode cb_Te_isCharacter 7 = .ok (.bipush 32, 2) := by decide +kernel
theorem dd_Te_isCharacter_9 : decode cb_Te_isCharacter 9 = .ok (.if_icmp .lt 13, 3) := by decide +kernel
theorem dd_Te_isCharacter_12 : decode cb_Te_isCharacter 12 = .ok (.iload_n 0, 1) := by decide +kernel
theorem dd_Te_isCharacter_13 : decode cb_Te_isCharacter 13 = .ok (.bipush 126, 2) := by decide +kernel
theorem dd_Te_isCharacter_15 : decode cb_Te_isCharacter 15 = .ok (.if_icmp .gt 7, 3) := by decide +kernel
theorem dd_Te_isCharacter_18 : decode cb_Te_isCharacter 18 = .ok (.iconst 1, 1) := by decide +kernel
theorem dd_Te_isCharacter_19 : decode cb_Te_isCharacter 19 = .ok (.goto 4, 3) := by decide +kernel
theorem dd_Te_isCharacter_22 : decode cb_Te_isCharacter 22 = .ok (.iconst 0, 1) := by decide +kernel
theorem dd_Te_isCharacter_23 : decode cb_Te_isCharacter 23 = .ok (.ireturn, 1) := by decide +kernel
theorem dd_Te_isBlank_0 : decode cb_Te_isBlank 0 = .ok (.iload_n 0, 1) := by decide +kernel
theorem dd_Te_isBlank_1 : decode cb_Te_isBlank 1 = .ok (.bipush 32, 2) := by decide +kernel
theorem dd_Te_isBlank_3 : decode cb_Te_isBlank 3 = .ok (.if_icmp .eq 9, 3) := by decide +kernel
theorem dd_Te_isBlank_6 : decode cb_Te_isBlank 6 = .ok (.iload_n 0, 1) := by decide +kernel
theorem dd_Te_isBlank_7 : decode cb_Te_isBlank 7 = .ok (.bipush 10, 2) := by decide +kernel
theorem dd_Te_isBlank_9 : decode cb_Te_isBlank 9 = .ok (.if_icmp .ne 7, 3) := by decide +kernel
theorem dd_Te_isBlank_12 : decode cb_Te_isBlank 12 = .ok (.iconst 1, 1) := by decide +kernel
theorem dd_Te_isBlank_13 : decode cb_Te_isBlank 13 = .ok (.goto 4, 3) := by decide +kernel
theorem dd_Te_isBlank_16 : decode cb_Te_isBlank 16 = .ok (.iconst 0, 1) := by decide +kernel
theorem dd_Te_isBlank_17 : decode cb_Te_isBlank 17 = .ok (.ireturn, 1) := by decide +kernel
theorem dd_Te_append_0 : decode cb_Te_append 0 = .ok (.iload_n 2, 1) := by decide +kernel
theorem dd_Te_append_1 : decode cb_Te_append 1 = .ok (.iconst 1, 1) := by decide +kernel
theorem dd_Te_append_2 : decode cb_Te_append 2 = .ok (.if_icmp .lt 20, 3) := by decide +kernel
theorem dd_Te_append_5 : decode cb_Te_append 5 = .ok (.iload_n 2, 1) := by decide +kernel
theorem dd_Te_append_6 : decode cb_Te_append 6 = .ok (.iconst 4, 1) := by decide +kernel
theorem dd_Te_append_7 : decode cb_Te_append 7 = .ok (.if_icmp .gt 15, 3) := by decide +kernel
theorem dd_Te_append_10 : decode cb_Te_append 10 = .ok (.aload_n 0, 1) := by decide +kernel
theorem dd_Te_append_11 : decode cb_Te_append 11 = .ok (.getfield 15, 3) := by decide +kernel
theorem dd_Te_append_14 : decode cb_Te_append 14 = .ok (.iload_n 2, 1) := by decide +kernel
theorem dd_Te_append_15 : decode cb_Te_append 15 = .ok (.iadd, 1) := by decide +kernel
theorem dd_Te_append_16 : decode cb_Te_append 16 = .ok (.sipush 160, 3) := by decide +kernel
theorem dd_Te_append_19 : decode cb_Te_append 19 = .ok (.if_icmp .le 5, 3) := by decide +kernel
theorem dd_Te_append_22 : decode cb_Te_append 22 = .ok (.iconst 0, 1) := by decide +kernel
theorem dd_Te_append_23 : decode cb_Te_append 23 = .ok (.ireturn, 1) := by decide +kernel
theorem dd_Te_append_24 : decode cb_Te_append 24 = .ok (.iload_n 2, 1) := by decide +kernel
theorem dd_Te_append_25 : decode cb_Te_append 25 = .ok (.iconst 1, 1) := by decide +kernel
theorem dd_Te_append_26 : decode cb_Te_append 26 = .ok (.isub, 1) := by decide +kernel
theorem dd_Te_append_27 : decode cb_Te_append 27 = .ok (.istore_n 3, 1) := by decide +kernel
theorem dd_Te_append_28 : decode cb_Te_append 28 = .ok (.iload_n 3, 1) := by decide +kernel
theorem dd_Te_append_29 : decode cb_Te_append 29 = .ok (.ifCond .lt 22, 3) := by decide +kernel
theorem dd_Te_append_32 : decode cb_Te_append 32 = .ok (.iload_n 1, 1) := by decide +kernel
theorem dd_Te_append_33 : decode cb_Te_append 33 = .ok (.iload_n 3, 1) := by decide +kernel
theorem dd_Te_append_34 : decode cb_Te_append 34 = .ok (.invokestatic 19, 3) := by decide +kernel
theorem dd_Te_append_37 : decode cb_Te_append 37 = .ok (.invokestatic 23, 3) := by decide +kernel
theorem dd_Te_append_40 : decode cb_Te_append 40 = .ok (.ifCond .ne 5, 3) := by decide +kernel
theorem dd_Te_append_43 : decode cb_Te_append 43 = .ok (.iconst 0, 1) := by decide +kernel
theorem dd_Te_append_44 : decode cb_Te_append 44 = .ok (.ireturn, 1) := by decide +kernel
theorem dd_Te_append_45 : decode cb_Te_append 45 = .ok (.iinc 3 (-1), 3) := by decide +kernel
theorem dd_Te_append_48 : decode cb_Te_append 48 = .ok (.goto (-20), 3) := by decide +kernel
theorem dd_Te_append_51 : decode cb_Te_append 51 = .ok (.iload_n 2, 1) := by decide +kernel
theorem dd_Te_append_52 : decode cb_Te_append 52 = .ok (.iconst 1, 1) := by decide +kernel
theorem dd_Te_append_53 : decode cb_Te_append 53 = .ok (.isub, 1) := by decide +kernel
theorem dd_Te_append_54 : decode cb_Te_append 54 = .ok (.istore_n 3, 1) := by decide +kernel
theorem dd_Te_append_55 : decode cb_Te_append 55 = .ok (.iload_n 3, 1) := by decide +kernel
theorem dd_Te_append_56 : decode cb_Te_append 56 = .ok (.ifCond .lt 34, 3) := by decide +kernel
theorem dd_Te_append_59 : decode cb_Te_append 59 = .ok (.aload_n 0, 1) := by decide +kernel
theorem dd_Te_append_60 : decode cb_Te_append 60 = .ok (.getfield 9, 3) := by decide +kernel
theorem dd_Te_append_63 : decode cb_Te_append 63 = .ok (.aload_n 0, 1) := by decide +kernel
theorem dd_Te_append_64 : decode cb_Te_append 64 = .ok (.getfield 15, 3) := by decide +kernel
theorem dd_Te_append_67 : decode cb_Te_append 67 = .ok (.iload_n 1, 1) := by decide +kernel
theorem dd_Te_append_68 : decode cb_Te_append 68 = .ok (.iload_n 3, 1) := by decide +kernel
theorem dd_Te_append_69 : decode cb_Te_append 69 = .ok (.invokestatic 19, 3) := by decide +kernel
theorem dd_Te_append_72 : decode cb_Te_append 72 = .ok (.i2c, 1) := by decide +kernel
theorem dd_Te_append_73 : decode cb_Te_append 73 = .ok (.castore, 1) := by decide +kernel
theorem dd_Te_append_74 : decode cb_Te_append 74 = .ok (.aload_n 0, 1) := by decide +kernel
theorem dd_Te_append_75 : decode cb_Te_append 75 = .ok (.dup, 1) := by decide +kernel
theorem dd_Te_append_76 : decode cb_Te_append 76 = .ok (.getfield 15, 3) := by decide +kernel
theorem dd_Te_append_79 : decode cb_Te_append 79 = .ok (.iconst 1, 1) := by decide +kernel
theorem dd_Te_append_80 : decode cb_Te_append 80 = .ok (.iadd, 1) := by decide +kernel
theorem dd_Te_append_81 : decode cb_Te_append 81 = .ok (.putfield 15, 3) := by decide +kernel
theorem dd_Te_append_84 : decode cb_Te_append 84 = .ok (.iinc 3 (-1), 3) := by decide +kernel
theorem dd_Te_append_87 : decode cb_Te_append 87 = .ok (.goto (-32), 3) := by decide +kernel
theorem dd_Te_append_90 : decode cb_Te_append 90 = .ok (.iconst 1, 1) := by decide +kernel
theorem dd_Te_append_91 : decode cb_Te_append 91 = .ok (.ireturn, 1) := by decide +kernel
theorem dd_Te_clear_0 : decode cb_Te_clear 0 = .ok (.aload_n 0, 1) := by decide +kernel
theorem dd_Te_clear_1 : decode cb_Te_clear 1 = .ok (.iconst 0, 1) := by decide +kernel
theorem dd_Te_clear_2 : decode cb_Te_clear 2 = .ok (.putfield 15, 3) := by decide +kernel
theorem dd_Te_clear_5 : decode cb_Te_clear 5 = .ok (.return_, 1) := by decide +kernel
theorem dd_In_bitCount_0 : decode cb_In_bitCount 0 = .ok (.iload_n 0, 1) := by decide +kernel
theorem dd_In_bitCount_1 : decode cb_In_bitCount 1 = .ok (.iload_n 0, 1) := by decide +kernel
theorem dd_In_bitCount_2 : decode cb_In_bitCount 2 = .ok (.iconst 1, 1) := by decide +kernel
theorem dd_In_bitCount_3 : decode cb_In_bitCount 3 = .ok (.iushr, 1) := by decide +kernel
theorem dd_In_bitCount_4 : decode cb_In_bitCount 4 = .ok (.ldc_w 265, 3) := by decide +kernel
theorem dd_In_bitCount_7 : decode cb_In_bitCount 7 = .ok (.iand, 1) := by decide +kernel
theorem dd_In_bitCount_8 : decode cb_In_bitCount 8 = .ok (.isub, 1) := by decide +kernel
theorem dd_In_bitCount_9 : decode cb_In_bitCount 9 = .ok (.istore_n 0, 1) := by decide +kernel
theorem dd_In_bitCount_10 : decode cb_In_bitCount 10 = .ok (.iload_n 0, 1) := by decide +kernel
theorem dd_In_bitCount_11 : decode cb_In_bitCount 11 = .ok (.ldc_w 266, 3) := by decide +kernel
theorem dd_In_bitCount_14 : decode cb_In_bitCount 14 = .ok (.iand, 1) := by decide +kernel
theorem dd_In_bitCount_15 : decode cb_In_bitCount 15 = .ok (.iload_n 0, 1) := by decide +kernel
theorem dd_In_bitCount_16 : decode cb_In_bitCount 16 = .ok (.iconst 2, 1) := by decide +kernel
theorem dd_In_bitCount_17 : decode cb_In_bitCount 17 = .ok (.iushr, 1) := by decide +kernel
theorem dd_In_bitCount_18 : decode cb_In_bitCount 18 = .ok (.ldc_w 266, 3) := by decide +kernel
theorem dd_In_bitCount_21 : decode cb_In_bitCount 21 = .ok (.iand, 1) := by decide +kernel
theorem dd_In_bitCount_22 : decode cb_In_bitCount 22 = .ok (.iadd, 1) := by decide +kernel
theorem dd_In_bitCount_23 : decode cb_In_bitCount 23 = .ok (.istore_n 0, 1) := by decide +kernel
theorem dd_In_bitCount_24 : decode cb_In_bitCount 24 = .ok (.iload_n 0, 1) := by decide +kernel
theorem dd_In_bitCount_25 : decode cb_In_bitCount 25 = .ok (.iload_n 0, 1) := by decide +kernel
theorem dd_In_bitCount_26 : decode cb_In_bitCount 26 = .ok (.iconst 4, 1) := by decide +kernel
theorem dd_In_bitCount_27 : decode cb_In_bitCount 27 = .ok (.iushr, 1) := by decide +kernel
theorem dd_In_bitCount_28 : decode cb_In_bitCount 28 = .ok (.iadd, 1) := by decide +kernel
theorem dd_In_bitCount_29 : decode cb_In_bitCount 29 = .ok (.ldc_w 267, 3) := by decide +kernel
theorem dd_In_bitCount_32 : decode cb_In_bitCount 32 = .ok (.iand, 1) := by decide +kernel
theorem dd_In_bitCount_33 : decode cb_In_bitCount 33 = .ok (.istore_n 0, 1) := by decide +kernel
theorem dd_In_bitCount_34 : decode cb_In_bitCount 34 = .ok (.iload_n 0, 1) := by decide +kernel
theorem dd_In_bitCount_35 : decode cb_In_bitCount 35 = .ok (.iload_n 0, 1) := by decide +kernel
theorem dd_In_bitCount_36 : decode cb_In_bitCount 36 = .ok (.bipush 8, 2) := by decide +kernel
theorem dd_In_bitCount_38 : decode cb_In_bitCount 38 = .ok (.iushr, 1) := by decide +kernel
theorem dd_In_bitCount_39 : decode cb_In_bitCount 39 = .ok (.iadd, 1) := by decide +kernel
theorem dd_In_bitCount_40 : decode cb_In_bitCount 40 = .ok (.istore_n 0, 1) := by decide +kernel
theorem dd_In_bitCount_41 : decode cb_In_bitCount 41 = .ok (.iload_n 0, 1) := by decide +kernel
theorem dd_In_bitCount_42 : decode cb_In_bitCount 42 = .ok (.iload_n 0, 1) := by decide +kernel
theorem dd_In_bitCount_43 : decode cb_In_bitCount 43 = .ok (.bipush 16, 2) := by decide +kernel
theorem dd_In_bitCount_45 : decode cb_In_bitCount 45 = .ok (.iushr, 1) := by decide +kernel
theorem dd_In_bitCount_46 : decode cb_In_bitCount 46 = .ok (.iadd, 1) := by decide +kernel
theorem dd_In_bitCount_47 : decode cb_In_bitCount 47 = .ok (.istore_n 0, 1) := by decide +kernel
theorem dd_In_bitCount_48 : decode cb_In_bitCount 48 = .ok (.iload_n 0, 1) := by decide +kernel
theorem dd_In_bitCount_49 : decode cb_In_bitCount 49 = .ok (.bipush 63, 2) := by decide +kernel
theorem dd_In_bitCount_51 : decode cb_In_bitCount 51 = .ok (.iand, 1) := by decide +kernel
theorem dd_In_bitCount_52 : decode cb_In_bitCount 52 = .ok (.ireturn, 1) := by decide +kernel
theorem dd_Co_bit_0 : decode cb_Co_bit 0 = .ok (.iload_n 0, 1) := by decide +kernel
theorem dd_Co_bit_1 : decode cb_Co_bit 1 = .ok (.ifCond .ne 5, 3) := by decide +kernel
theorem dd_Co_bit_4 : decode cb_Co_bit 4 = .ok (.iconst 0, 1) := by decide +kernel
theorem dd_Co_bit_5 : decode cb_Co_bit 5 = .ok (.ireturn, 1) := by decide +kernel
theorem dd_Co_bit_6 : decode cb_Co_bit 6 = .ok (.iload_n 0, 1) := by decide +kernel
theorem dd_Co_bit_7 : decode cb_Co_bit 7 = .ok (.ifCond .le 11, 3) := by decide +kernel
theorem dd_Co_bit_10 : decode cb_Co_bit 10 = .ok (.iconst 1, 1) := by decide +kernel
theorem dd_Co_bit_11 : decode cb_Co_bit 11 = .ok (.iload_n 0, 1) := by decide +kernel
theorem dd_Co_bit_12 : decode cb_Co_bit 12 = .ok (.iconst 1, 1) := by decide +kernel
theorem dd_Co_bit_13 : decode cb_Co_bit 13 = .ok (.isub, 1) := by decide +kernel
theorem dd_Co_bit_14 : decode cb_Co_bit 14 = .ok (.ishl, 1) := by decide +kernel
theorem dd_Co_bit_15 : decode cb_Co_bit 15 = .ok (.goto 9, 3) := by decide +kernel
theorem dd_Co_bit_18 : decode cb_Co_bit 18 = .ok (.iconst 1, 1) := by decide +kernel
theorem dd_Co_bit_19 : decode cb_Co_bit 19 = .ok (.bipush 9, 2) := by decide +kernel
theorem dd_Co_bit_21 : decode cb_Co_bit 21 = .ok (.iload_n 0, 1) := by decide +kernel
theorem dd_Co_bit_22 : decode cb_Co_bit 22 = .ok (.isub, 1) := by decide +kernel
theorem dd_Co_bit_23 : decode cb_Co_bit 23 = .ok (.ishl, 1) := by decide +kernel
theorem dd_Co_bit_24 : decode cb_Co_bit 24 = .ok (.ireturn, 1) := by decide +kernel
theorem dd_Co_opposites_0 : decode cb_Co_opposites 0 = .ok (.iload_n 0, 1) := by decide +kernel
theorem dd_Co_opposites_1 : decode cb_Co_opposites 1 = .ok (.bipush 10, 2) := by decide +kernel
theorem dd_Co_opposites_3 : decode cb_Co_opposites 3 = .ok (.ishl, 1) := by decide +kernel
theorem dd_Co_opposites_4 : decode cb_Co_opposites 4 = .ok (.iload_n 0, 1) := by decide +kernel
theorem dd_Co_opposites_5 : decode cb_Co_opposites 5 = .ok (.bipush 10, 2) := by decide +kernel
theorem dd_Co_opposites_7 : decode cb_Co_opposites 7 = .ok (.ishr, 1) := by decide +kernel
theorem dd_Co_opposites_8 : decode cb_Co_opposites 8 = .ok (.ior, 1) := by decide +kernel
theorem dd_Co_opposites_9 : decode cb_Co_opposites 9 = .ok (.ldc 134, 2) := by decide +kernel
theorem dd_Co_opposites_11 : decode cb_Co_opposites 11 = .ok (.iand, 1) := by decide +kernel
theorem dd_Co_opposites_12 : decode cb_Co_opposites 12 = .ok (.ireturn, 1) := by decide +kernel
theorem dd_Co_follow_0 : decode cb_Co_follow 0 = .ok (.iload_n 0, 1) := by decide +kernel
theorem dd_Co_follow_1 : decode cb_Co_follow 1 = .ok (.iload_n 1, 1) := by decide +kernel
theorem dd_Co_follow_2 : decode cb_Co_follow 2 = .ok (.invokestatic 135, 3) := by decide +kernel
theorem dd_Co_follow_5 : decode cb_Co_follow 5 = .ok (.iconst (-1), 1) := by decide +kernel
theorem dd_Co_follow_6 : decode cb_Co_follow 6 = .ok (.ixor, 1) := by decide +kernel
theorem dd_Co_follow_7 : decode cb_Co_follow 7 = .ok (.iand, 1) := by decide +kernel
theorem dd_Co_follow_8 : decode cb_Co_follow 8 = .ok (.istore_n 2, 1) := by decide +kernel
theorem dd_Co_follow_9 : decode cb_Co_follow 9 = .ok (.iload_n 2, 1) := by decide +kernel
theorem dd_Co_follow_10 : decode cb_Co_follow 10 = .ok (.ifCond .ne 5, 3) := by decide +kernel
theorem dd_Co_follow_13 : decode cb_Co_follow 13 = .ok (.iconst (-1), 1) := by decide +kernel
theorem dd_Co_follow_14 : decode cb_Co_follow 14 = .ok (.ireturn, 1) := by decide +kernel
theorem dd_Co_follow_15 : decode cb_Co_follow 15 = .ok (.iload_n 2, 1) := by decide +kernel
theorem dd_Co_follow_16 : decode cb_Co_follow 16 = .ok (.invokestatic 98, 3) := by decide +kernel
theorem dd_Co_follow_19 : decode cb_Co_follow 19 = .ok (.iconst 1, 1) := by decide +kernel
theorem dd_Co_follow_20 : decode cb_Co_follow 20 = .ok (.if_icmp .ne 15, 3) := by decide +kernel
theorem dd_Co_follow_23 : decode cb_Co_follow 23 = .ok (.iload_n 2, 1) := by decide +kernel
theorem dd_Co_follow_24 : decode cb_Co_follow 24 = .ok (.iload_n 1, 1) := by decide +kernel
theorem dd_Co_follow_25 : decode cb_Co_follow 25 = .ok (.iand, 1) := by decide +kernel
theorem dd_Co_follow_26 : decode cb_Co_follow 26 = .ok (.ifCond .ne 9, 3) := by decide +kernel
theorem dd_Co_follow_29 : decode cb_Co_follow 29 = .ok (.iload_n 1, 1) := by decide +kernel
theorem dd_Co_follow_30 : decode cb_Co_follow 30 = .ok (.iload_n 2, 1) := by decide +kernel
theorem dd_Co_follow_31 : decode cb_Co_follow 31 = .ok (.ior, 1) := by decide +kernel
theorem dd_Co_follow_32 : decode cb_Co_follow 32 = .ok (.goto 5, 3) := by decide +kernel
theorem dd_Co_follow_35 : decode cb_Co_follow 35 = .ok (.bipush (-2), 2) := by decide +kernel
theorem dd_Co_follow_37 : decode cb_Co_follow 37 = .ok (.ireturn, 1) := by decide +kernel
theorem dd_Te_init_0 : decode cb_Te_init 0 = .ok (.aload_n 0, 1) := by decide +kernel
theorem dd_Te_init_1 : decode cb_Te_init 1 = .ok (.invokespecial 3, 3) := by decide +kernel
theorem dd_Te_init_4 : decode cb_Te_init 4 = .ok (.aload_n 0, 1) := by decide +kernel
theorem dd_Te_init_5 : decode cb_Te_init 5 = .ok (.sipush 160, 3) := by decide +kernel
theorem dd_Te_init_8 : decode cb_Te_init 8 = .ok (.newarray .char, 2) := by decide +kernel
theorem dd_Te_init_10 : decode cb_Te_init 10 = .ok (.putfield 9, 3) := by decide +kernel
theorem dd_Te_init_13 : decode cb_Te_init 13 = .ok (.return_, 1) := by decide +kernel
theorem dd_Pr_init_0 : decode cb_Pr_init 0 = .ok (.aload_n 0, 1) := by decide +kernel
theorem dd_Pr_init_1 : decode cb_Pr_init 1 = .ok (.invokespecial 3, 3) := by decide +kernel
theorem dd_Pr_init_4 : decode cb_Pr_init 4 = .ok (.aload_n 0, 1) := by decide +kernel
theorem dd_Pr_init_5 : decode cb_Pr_init 5 = .ok (.bipush 40, 2) := by decide +kernel
theorem dd_Pr_init_7 : decode cb_Pr_init 7 = .ok (.anewarray 9, 3) := by decide +kernel
theorem dd_Pr_init_10 : decode cb_Pr_init 10 = .ok (.putfield 11, 3) := by decide +kernel
theorem dd_Pr_init_13 : decode cb_Pr_init 13 = .ok (.return_, 1) := by decide +kernel
theorem dd_Se_init_0 : decode cb_Se_init 0 = .ok (.aload_n 0, 1) := by decide +kernel
theorem dd_Se_init_1 : decode cb_Se_init 1 = .ok (.invokespecial 3, 3) := by decide +kernel
theorem dd_Se_init_4 : decode cb_Se_init 4 = .ok (.aload_n 0, 1) := by decide +kernel
theorem dd_Se_init_5 : decode cb_Se_init 5 = .ok (.sipush 2072, 3) := by decide +kernel
theorem dd_Se_init_8 : decode cb_Se_init 8 = .ok (.newarray .int, 2) := by decide +kernel
theorem dd_Se_init_10 : decode cb_Se_init 10 = .ok (.putfield 9, 3) := by decide +kernel
theorem dd_Se_init_13 : decode cb_Se_init 13 = .ok (.aload_n 0, 1) := by decide +kernel
theorem dd_Se_init_14 : decode cb_Se_init 14 = .ok (.bipush 10, 2) := by decide +kernel
theorem dd_Se_init_16 : decode cb_Se_init 16 = .ok (.newarray .int, 2) := by decide +kernel
theorem dd_Se_init_18 : decode cb_Se_init 18 = .ok (.putfield 15, 3) := by decide +kernel
theorem dd_Se_init_21 : decode cb_Se_init 21 = .ok (.aload_n 0, 1) := by decide +kernel
theorem dd_Se_init_22 : decode cb_Se_init 22 = .ok (.bipush 10, 2) := by decide +kernel
theorem dd_Se_init_24 : decode cb_Se_init 24 = .ok (.newarray .int, 2) := by decide +kernel
theorem dd_Se_init_26 : decode cb_Se_init 26 = .ok (.putfield 18, 3) := by decide +kernel
theorem dd_Se_init_29 : decode cb_Se_init 29 = .ok (.aload_n 0, 1) := by decide +kernel
theorem dd_Se_init_30 : decode cb_Se_init 30 = .ok (.bipush 11, 2) := by decide +kernel
theorem dd_Se_init_32 : decode cb_Se_init 32 = .ok (.newarray .int, 2) := by decide +kernel
theorem dd_Se_init_34 : decode cb_Se_init 34 = .ok (.putfield 21, 3) := by decide +kernel
theorem dd_Se_init_37 : decode cb_Se_init 37 = .ok (.aload_n 0, 1) := by decide +kernel
theorem dd_Se_init_38 : decode cb_Se_init 38 = .ok (.bipush 11, 2) := by decide +kernel
theorem dd_Se_init_40 : decode cb_Se_init 40 = .ok (.newarray .int, 2) := by decide +kernel
theorem dd_Se_init_42 : decode cb_Se_init 42 = .ok (.putfield 24, 3) := by decide +kernel
theorem dd_Se_init_45 : decode cb_Se_init 45 = .ok (.return_, 1) := by decide +kernel
theorem dd_Fo_init_0 : decode cb_Fo_init 0 = .ok (.aload_n 0, 1) := by decide +kernel
theorem dd_Fo_init_1 : decode cb_Fo_init 1 = .ok (.invokespecial 3, 3) := by decide +kernel
theorem dd_Fo_init_4 : decode cb_Fo_init 4 = .ok (.aload_n 0, 1) := by decide +kernel
theorem dd_Fo_init_5 : decode cb_Fo_init 5 = .ok (.bipush 24, 2) := by decide +kernel
theorem dd_Fo_init_7 : decode cb_Fo_init 7 = .ok (.anewarray 9, 3) := by decide +kernel
theorem dd_Fo_init_10 : decode cb_Fo_init 10 = .ok (.putfield 11, 3) := by decide +kernel
theorem dd_Fo_init_13 : decode cb_Fo_init 13 = .ok (.aload_n 0, 1) := by decide +kernel
theorem dd_Fo_init_14 : decode cb_Fo_init 14 = .ok (.iconst (-1), 1) := by decide +kernel
theorem dd_Fo_init_15 : decode cb_Fo_init 15 = .ok (.putfield 17, 3) := by decide +kernel
theorem dd_Fo_init_18 : decode cb_Fo_init 18 = .ok (.aload_n 0, 1) := by decide +kernel
theorem dd_Fo_init_19 : decode cb_Fo_init 19 = .ok (.iload_n 1, 1) := by decide +kernel
theorem dd_Fo_init_20 : decode cb_Fo_init 20 = .ok (.putfield 21, 3) := by decide +kernel
theorem dd_Fo_init_23 : decode cb_Fo_init 23 = .ok (.return_, 1) := by decide +kernel
theorem dd_Pr_begin_0 : decode cb_Pr_begin 0 = .ok (.iconst 0, 1) := by decide +kernel
theorem dd_Pr_begin_1 : decode cb_Pr_begin 1 = .ok (.istore_n 2, 1) := by decide +kernel
theorem dd_Pr_begin_2 : decode cb_Pr_begin 2 = .ok (.iload_n 2, 1) := by decide +kernel
theorem dd_Pr_begin_3 : decode cb_Pr_begin 3 = .ok (.aload_n 1, 1) := by decide +kernel
theorem dd_Pr_begin_4 : decode cb_Pr_begin 4 = .ok (.getfield 17, 3) := by decide +kernel
theorem dd_Pr_begin_7 : decode cb_Pr_begin 7 = .ok (.if_icmp .ge 21, 3) := by decide +kernel
theorem dd_Pr_begin_10 : decode cb_Pr_begin 10 = .ok (.aload_n 0, 1) := by decide +kernel
theorem dd_Pr_begin_11 : decode cb_Pr_begin 11 = .ok (.getfield 11, 3) := by decide +kernel
theorem dd_Pr_begin_14 : decode cb_Pr_begin 14 = .ok (.iload_n 2, 1) := by decide +kernel
theorem dd_Pr_begin_15 : decode cb_Pr_begin 15 = .ok (.aload_n 1, 1) := by decide +kernel
theorem dd_Pr_begin_16 : decode cb_Pr_begin 16 = .ok (.getfield 23, 3) := by decide +kernel
theorem dd_Pr_begin_19 : decode cb_Pr_begin 19 = .ok (.iload_n 2, 1) := by decide +kernel
theorem dd_Pr_begin_20 : decode cb_Pr_begin 20 = .ok (.aaload, 1) := by decide +kernel
theorem dd_Pr_begin_21 : decode cb_Pr_begin 21 = .ok (.aastore, 1) := by decide +kernel
theorem dd_Pr_begin_22 : decode cb_Pr_begin 22 = .ok (.iinc 2 1, 3) := by decide +kernel
theorem dd_Pr_begin_25 : decode cb_Pr_begin 25 = .ok (.goto (-23), 3) := by decide +kernel
theorem dd_Pr_begin_28 : decode cb_Pr_begin 28 = .ok (.aload_n 0, 1) := by decide +kernel
theorem dd_Pr_begin_29 : decode cb_Pr_begin 29 = .ok (.aload_n 1, 1) := by decide +kernel
theorem dd_Pr_begin_30 : decode cb_Pr_begin 30 = .ok (.getfield 17, 3) := by decide +kernel
theorem dd_Pr_begin_33 : decode cb_Pr_begin 33 = .ok (.putfield 24, 3) := by decide +kernel
theorem dd_Pr_begin_36 : decode cb_Pr_begin 36 = .ok (.aload_n 0, 1) := by decide +kernel
theorem dd_Pr_begin_37 : decode cb_Pr_begin 37 = .ok (.aload_n 1, 1) := by decide +kernel
theorem dd_Pr_begin_38 : decode cb_Pr_begin 38 = .ok (.getfield 17, 3) := by decide +kernel
theorem dd_Pr_begin_41 : decode cb_Pr_begin 41 = .ok (.putfield 25, 3) := by decide +kernel
theorem dd_Pr_begin_44 : decode cb_Pr_begin 44 = .ok (.aload_n 0, 1) := by decide +kernel
theorem dd_Pr_begin_45 : decode cb_Pr_begin 45 = .ok (.iconst 0, 1) := by decide +kernel
theorem dd_Pr_begin_46 : decode cb_Pr_begin 46 = .ok (.putfield 28, 3) := by decide +kernel
theorem dd_Pr_begin_49 : decode cb_Pr_begin 49 = .ok (.return_, 1) := by decide +kernel
theorem dd_Se_begin_0 : decode cb_Se_begin 0 = .ok (.aload_n 0, 1) := by decide +kernel
theorem dd_Se_begin_1 : decode cb_Se_begin 1 = .ok (.aload_n 1, 1) := by decide +kernel
theorem dd_Se_begin_2 : decode cb_Se_begin 2 = .ok (.getfield 27, 3) := by decide +kernel
theorem dd_Se_begin_5 : decode cb_Se_begin 5 = .ok (.putfield 33, 3) := by decide +kernel
theorem dd_Se_begin_8 : decode cb_Se_begin 8 = .ok (.iconst 0, 1) := by decide +kernel
theorem dd_Se_begin_9 : decode cb_Se_begin 9 = .ok (.istore_n 2, 1) := by decide +kernel
theorem dd_Se_begin_10 : decode cb_Se_begin 10 = .ok (.iload_n 2, 1) := by decide +kernel
theorem dd_Se_begin_11 : decode cb_Se_begin 11 = .ok (.aload_n 0, 1) := by decide +kernel
theorem dd_Se_begin_12 : decode cb_Se_begin 12 = .ok (.getfield 33, 3) := by decide +kernel
theorem dd_Se_begin_15 : decode cb_Se_begin 15 = .ok (.if_icmp .ge 24, 3) := by decide +kernel
theorem dd_Se_begin_18 : decode cb_Se_begin 18 = .ok (.aload_n 0, 1) := by decide +kernel
theorem dd_Se_begin_19 : decode cb_Se_begin 19 = .ok (.getfield 9, 3) := by decide +kernel
theorem dd_Se_begin_22 : decode cb_Se_begin 22 = .ok (.iload_n 2, 1) := by decide +kernel
theorem dd_Se_begin_23 : decode cb_Se_begin 23 = .ok (.aload_n 1, 1) := by decide +kernel
theorem dd_Se_begin_24 : decode cb_Se_begin 24 = .ok (.getfield 34, 3) := by decide +kernel
theorem dd_Se_begin_27 : decode cb_Se_begin 27 = .ok (.iload_n 2, 1) := by decide +kernel
theorem dd_Se_begin_28 : decode cb_Se_begin 28 = .ok (.aaload, 1) := by decide +kernel
theorem dd_Se_begin_29 : decode cb_Se_begin 29 = .ok (.getfield 37, 3) := by decide +kernel
theorem dd_Se_begin_32 : decode cb_Se_begin 32 = .ok (.iastore, 1) := by decide +kernel
theorem dd_Se_begin_33 : decode cb_Se_begin 33 = .ok (.iinc 2 1, 3) := by decide +kernel
theorem dd_Se_begin_36 : decode cb_Se_begin 36 = .ok (.goto (-26), 3) := by decide +kernel
theorem dd_Se_begin_39 : decode cb_Se_begin 39 = .ok (.aload_n 0, 1) := by decide +kernel
theorem dd_Se_begin_40 : decode cb_Se_begin 40 = .ok (.aload_n 1, 1) := by decide +kernel
theorem dd_Se_begin_41 : decode cb_Se_begin 41 = .ok (.getfield 42, 3) := by decide +kernel
theorem dd_Se_begin_44 : decode cb_Se_begin 44 = .ok (.putfield 45, 3) := by decide +kernel
theorem dd_Se_begin_47 : decode cb_Se_begin 47 = .ok (.aload_n 0, 1) := by decide +kernel
theorem dd_Se_begin_48 : decode cb_Se_begin 48 = .ok (.iconst 0, 1) := by decide +kernel
theorem dd_Se_begin_49 : decode cb_Se_begin 49 = .ok (.putfield 46, 3) := by decide +kernel
theorem dd_Se_begin_52 : decode cb_Se_begin 52 = .ok (.aload_n 0, 1) := by decide +kernel
theorem dd_Se_begin_53 : decode cb_Se_begin 53 = .ok (.iconst 0, 1) := by decide +kernel
theorem dd_Se_begin_54 : decode cb_Se_begin 54 = .ok (.putfield 50, 3) := by decide +kernel
theorem dd_Se_begin_57 : decode cb_Se_begin 57 = .ok (.aload_n 0, 1) := by decide +kernel
theorem dd_Se_begin_58 : decode cb_Se_begin 58 = .ok (.iconst 0, 1) := by decide +kernel
theorem dd_Se_begin_59 : decode cb_Se_begin 59 = .ok (.putfield 53, 3) := by decide +kernel
theorem dd_Se_begin_62 : decode cb_Se_begin 62 = .ok (.aload_n 0, 1) := by decide +kernel
theorem dd_Se_begin_63 : decode cb_Se_begin 63 = .ok (.iconst 1, 1) := by decide +kernel
theorem dd_Se_begin_64 : decode cb_Se_begin 64 = .ok (.putfield 56, 3) := by decide +kernel
theorem dd_Se_begin_67 : decode cb_Se_begin 67 = .ok (.aload_n 0, 1) := by decide +kernel
theorem dd_Se_begin_68 : decode cb_Se_begin 68 = .ok (.iconst 0, 1) := by decide +kernel
theorem dd_Se_begin_69 : decode cb_Se_begin 69 = .ok (.putfield 59, 3) := by decide +kernel
theorem dd_Se_begin_72 : decode cb_Se_begin 72 = .ok (.aload_n 0, 1) := by decide +kernel
theorem dd_Se_begin_73 : decode cb_Se_begin 73 = .ok (.iconst 0, 1) := by decide +kernel
theorem dd_Se_begin_74 : decode cb_Se_begin 74 = .ok (.putfield 62, 3) := by decide +kernel
theorem dd_Se_begin_77 : decode cb_Se_begin 77 = .ok (.aload_n 0, 1) := by decide +kernel
theorem dd_Se_begin_78 : decode cb_Se_begin 78 = .ok (.iconst 0, 1) := by decide +kernel
theorem dd_Se_begin_79 : decode cb_Se_begin 79 = .ok (.putfield 65, 3) := by decide +kernel
theorem dd_Se_begin_82 : decode cb_Se_begin 82 = .ok (.return_, 1) := by decide +kernel
theorem dd_Co_take_0 : decode cb_Co_take 0 = .ok (.aload_n 0, 1) := by decide +kernel
theorem dd_Co_take_1 : decode cb_Co_take 1 = .ok (.aload_n 1, 1) := by decide +kernel
theorem dd_Co_take_2 : decode cb_Co_take 2 = .ok (.putfield 57, 3) := by decide +kernel
theorem dd_Co_take_5 : decode cb_Co_take 5 = .ok (.aload_n 0, 1) := by decide +kernel
theorem dd_Co_take_6 : decode cb_Co_take 6 = .ok (.getfield 19, 3) := by decide +kernel
theorem dd_Co_take_9 : decode cb_Co_take 9 = .ok (.aload_n 1, 1) := by decide +kernel
theorem dd_Co_take_10 : decode cb_Co_take 10 = .ok (.invokevirtual 130, 3) := by decide +kernel
theorem dd_Co_take_13 : decode cb_Co_take 13 = .ok (.aload_n 0, 1) := by decide +kernel
theorem dd_Co_take_14 : decode cb_Co_take 14 = .ok (.getfield 26, 3) := by decide +kernel
theorem dd_Co_take_17 : decode cb_Co_take 17 = .ok (.aload_n 1, 1) := by decide +kernel
theorem dd_Co_take_18 : decode cb_Co_take 18 = .ok (.invokevirtual 133, 3) := by decide +kernel
theorem dd_Co_take_21 : decode cb_Co_take 21 = .ok (.return_, 1) := by decide +kernel
theorem dd_Co_init_0 : decode cb_Co_init 0 = .ok (.aload_n 0, 1) := by decide +kernel
theorem dd_Co_init_1 : decode cb_Co_init 1 = .ok (.invokespecial 3, 3) := by decide +kernel
theorem dd_Co_init_4 : decode cb_Co_init 4 = .ok (.aload_n 0, 1) := by decide +kernel
theorem dd_Co_init_5 : decode cb_Co_init 5 = .ok (.new 9, 3) := by decide +kernel
theorem dd_Co_init_8 : decode cb_Co_init 8 = .ok (.dup, 1) := by decide +kernel
theorem dd_Co_init_9 : decode cb_Co_init 9 = .ok (.invokespecial 11, 3) := by decide +kernel
theorem dd_Co_init_12 : decode cb_Co_init 12 = .ok (.putfield 12, 3) := by decide +kernel
theorem dd_Co_init_15 : decode cb_Co_init 15 = .ok (.aload_n 0, 1) := by decide +kernel
theorem dd_Co_init_16 : decode cb_Co_init 16 = .ok (.new 16, 3) := by decide +kernel
theorem dd_Co_init_19 : decode cb_Co_init 19 = .ok (.dup, 1) := by decide +kernel
theorem dd_Co_init_20 : decode cb_Co_init 20 = .ok (.invokespecial 18, 3) := by decide +kernel
theorem dd_Co_init_23 : decode cb_Co_init 23 = .ok (.putfield 19, 3) := by decide +kernel
theorem dd_Co_init_26 : decode cb_Co_init 26 = .ok (.aload_n 0, 1) := by decide +kernel
theorem dd_Co_init_27 : decode cb_Co_init 27 = .ok (.new 23, 3) := by decide +kernel
theorem dd_Co_init_30 : decode cb_Co_init 30 = .ok (.dup, 1) := by decide +kernel
theorem dd_Co_init_31 : decode cb_Co_init 31 = .ok (.invokespecial 25, 3) := by decide +kernel
theorem dd_Co_init_34 : decode cb_Co_init 34 = .ok (.putfield 26, 3) := by decide +kernel
theorem dd_Co_init_37 : decode cb_Co_init 37 = .ok (.aload_n 0, 1) := by decide +kernel
theorem dd_Co_init_38 : decode cb_Co_init 38 = .ok (.new 30, 3) := by decide +kernel
theorem dd_Co_init_41 : decode cb_Co_init 41 = .ok (.dup, 1) := by decide +kernel
theorem dd_Co_init_42 : decode cb_Co_init 42 = .ok (.iconst 0, 1) := by decide +kernel
theorem dd_Co_init_43 : decode cb_Co_init 43 = .ok (.invokespecial 32, 3) := by decide +kernel
theorem dd_Co_init_46 : decode cb_Co_init 46 = .ok (.invokevirtual 35, 3) := by decide +kernel
theorem dd_Co_init_49 : decode cb_Co_init 49 = .ok (.return_, 1) := by decide +kernel
theorem dd_Co_type_0 : decode cb_Co_type 0 = .ok (.aload_n 0, 1) := by decide +kernel
theorem dd_Co_type_1 : decode cb_Co_type 1 = .ok (.getfield 12, 3) := by decide +kernel
theorem dd_Co_type_4 : decode cb_Co_type 4 = .ok (.iload_n 1, 1) := by decide +kernel
theorem dd_Co_type_5 : decode cb_Co_type 5 = .ok (.iload_n 2, 1) := by decide +kernel
theorem dd_Co_type_6 : decode cb_Co_type 6 = .ok (.invokevirtual 39, 3) := by decide +kernel
theorem dd_Co_type_9 : decode cb_Co_type 9 = .ok (.ireturn, 1) := by decide +kernel
end
section
/-! The heap as a map from addresses to cells, one judgement over it (hw_J), and a row an instruction. -/
abbrev hw_H : Type := Nat → Option va_E
abbrev hw_G : Type := va_G × (Nat → ClassId) × (Nat → Nat) × (Nat → Nat)
def hw_tys (g : hw_G) : List (ClassId × FieldType) := [(g.2.1 0, .int), (g.2.1 1, .char), (g.2.1 2, .boolean), (g.2.1 3, .object "ProofCourt$Clause")]
/-- the list of cells holds just what the map says -/
def hw_rep (ws : va_W) (w : hw_H) : Prop := ∀ (a : Nat) (e : va_E), w a = some e ↔ (a, e) ∈ ws
/-- the locals -/
def hw_L (ls : Array Slot) (nL : Nat) (lv : List (Option Value)) : Prop := ∃ l : List (Nat × Value), lv_has ls nL l ∧ ∀ (i : Nat) (v : Value), lv[i]? = some (some v) → (i, v) ∈ l ∧ v.category = 1
theorem hw_L_at {ls : Array Slot} {nL : Nat} {lv : List (Option Value)} (h : hw_L ls nL lv) {i : Nat} {v : Value} (hv : lv[i]? = some (some v)) : ls[i]? = some (.val v) := by
  obtain ⟨l, h1, h2⟩ := h
  exact h1.2.2 (i, v) (h2 i v hv).1
theorem hw_L_set {ls' : Array Slot} {nL : Nat} {lv : List (Option Value)} {l : List (Nat × Value)} {i : Nat} {x : Value} (hm : ∀ (i : Nat) (v : Value), lv[i]? = some (some v) → (i, v) ∈ l ∧ v.category = 1) (h : lv_has ls' nL ((i, x) :: l.filter (fun q => !(q.1 == i) && !(q.1 + 1 == i && q.2.category == 2)))) (hx : x.category = 1) : hw_L ls' nL (lv.set i (some x)) := by
  refine ⟨_, h, fun j v hj => ?_⟩
  by_cases hij : i = j
  · subst hij
    have hl : i < lv.length := by
      have h9 := (List.getElem?_eq_some_iff.mp hj).1
      simpa using h9
    rw [List.getElem?_set_self hl] at hj
    cases hj
    exact ⟨List.mem_cons_self, hx⟩
  · rw [List.getElem?_set_ne hij] at hj
    obtain ⟨h1, h2⟩ := hm j v hj
    refine ⟨List.mem_cons_of_mem _ (List.mem_filter.mpr ⟨h1, ?_⟩), h2⟩
    show (!(j == i) && !(j + 1 == i && v.category == 2)) = true
    rw [h2]
    simp [Ne.symm hij]
theorem hw_args_mem : ∀ (vs : List Value) (i0 : Nat), (∀ v ∈ vs, v.category = 1) → ∀ (j : Nat) (v : Value), vs[j]? = some v → (i0 + j, v) ∈ lv_args i0 vs := by
  intro vs
  induction vs with
  | nil => intro i0 _ j v h; simp at h
  | cons u vs ih =>
    intro i0 hc j v h
    have hu : ¬ u.category = 2 := by rw [hc u List.mem_cons_self]; decide
    cases j with
    | zero =>
      simp at h
      subst h
      exact List.mem_cons_self
    | succ j =>
      rw [List.getElem?_cons_succ] at h
      have h2 := ih (i0 + 1) (fun v hv => hc v (List.mem_cons_of_mem _ hv)) j v h
      simp only [lv_args, hu, if_false]
      rw [show i0 + (j + 1) = i0 + 1 + j by omega]
      exact List.mem_cons_of_mem _ h2
theorem hw_rep_set {A : Nat → Prop} {ws : va_W} {w : hw_H} {q0 a : Nat} {e0 e : va_E} (h : hw_rep ws w) (hD : va_D A ws) (hq : ws[q0]? = some (a, e0)) : hw_rep (ws.set q0 (a, e)) (va_up w a (some e)) := by
  have hl := (List.getElem?_eq_some_iff.mp hq).1
  intro b e'
  by_cases hb : b = a
  · subst hb
    rw [va_up_self]
    constructor
    · intro h1
      cases h1
      exact List.mem_iff_getElem?.mpr ⟨q0, List.getElem?_set_self hl⟩
    · intro h1
      obtain ⟨i, hi⟩ := List.mem_iff_getElem?.mp h1
      by_cases hiq : i = q0
      · subst hiq
        rw [List.getElem?_set_self hl] at hi
        cases hi
        rfl
      · rw [List.getElem?_set_ne (Ne.symm hiq)] at hi
        exact absurd (hD.1 i q0 _ _ hi hq rfl) hiq
  · rw [va_up_ne _ _ hb, h b e']
    constructor
    · intro h1
      obtain ⟨i, hi⟩ := List.mem_iff_getElem?.mp h1
      have hiq : i ≠ q0 := by
        intro z
        subst z
        rw [hq] at hi
        cases hi
        exact hb rfl
      exact List.mem_iff_getElem?.mpr ⟨i, by rw [List.getElem?_set_ne (Ne.symm hiq)]; exact hi⟩
    · intro h1
      obtain ⟨i, hi⟩ := List.mem_iff_getElem?.mp h1
      by_cases hiq : i = q0
      · subst hiq
        rw [List.getElem?_set_self hl] at hi
        cases hi
        exact absurd rfl hb
      · rw [List.getElem?_set_ne (Ne.symm hiq)] at hi
        exact List.mem_iff_getElem?.mpr ⟨i, hi⟩
theorem hw_fresh {A : Nat → Prop} {ws : va_W} {w : hw_H} {q : Nat} {e : va_E} (h : hw_rep ws w) (hD : va_D A (ws ++ [(q, e)])) : w q = none := by
  cases hw : w q with
  | none => rfl
  | some e0 =>
    obtain ⟨i, hi⟩ := List.mem_iff_getElem?.mp ((h q e0).mp hw)
    have hl := (List.getElem?_eq_some_iff.mp hi).1
    have h1 : (ws ++ [(q, e)])[i]? = some (q, e0) := by rw [List.getElem?_append_left hl]; exact hi
    have h2 : (ws ++ [(q, e)])[ws.length]? = some (q, e) := by rw [List.getElem?_append_right (Nat.le_refl _), Nat.sub_self]; rfl
    have := hD.1 _ _ _ _ h1 h2 rfl
    omega
theorem hw_rep_push {ws : va_W} {w : hw_H} {q : Nat} {e : va_E} (h : hw_rep ws w) (hq : w q = none) : hw_rep (ws ++ [(q, e)]) (va_up w q (some e)) := by
  intro b e'
  rw [List.mem_append, List.mem_singleton]
  by_cases hb : b = q
  · subst hb
    rw [va_up_self]
    constructor
    · intro h1; cases h1; exact Or.inr rfl
    · intro h1
      rcases h1 with h1 | h1
      · have := (h b e').mpr h1
        rw [hq] at this
        cases this
      · cases h1; rfl
  · rw [va_up_ne _ _ hb, h b e']
    constructor
    · intro h1; exact Or.inl h1
    · intro h1
      rcases h1 with h1 | h1
      · exact h1
      · cases h1; exact absurd rfl hb
theorem hw_rep_none {w : hw_H} (h : ∀ a, w a = none) : hw_rep [] w := by
  intro a e
  rw [h a]
  simp
/-- what a cell's field holds; a field that is written; what an array holds; an array that is written -/
def hw_g (w : hw_H) (a ci i : Nat) (v : Value) : Prop := ∃ fs : List Value, w a = some (.inr (ci, fs)) ∧ fs[i]? = some v
def hw_p (w : hw_H) (a ci i : Nat) (v : Value) (w' : hw_H) : Prop := ∃ fs : List Value, w a = some (.inr (ci, fs)) ∧ i < fs.length ∧ w' = va_up w a (some (.inr (ci, fs.set i v)))
def hw_ai (g : hw_G) (t : Nat) (w : hw_H) (a : Nat) (i x : Int32) : Prop := ∃ (n : Nat) (f : Nat → Int32), w a = some (.inl (g.2.1 t, n, .inl f)) ∧ vp_in i n ∧ f i.toNatClampNeg = x
def hw_as (g : hw_G) (t : Nat) (w : hw_H) (a : Nat) (i x : Int32) (w' : hw_H) : Prop := ∃ (n : Nat) (f : Nat → Int32), w a = some (.inl (g.2.1 t, n, .inl f)) ∧ vp_in i n ∧ w' = va_up w a (some (.inl (g.2.1 t, n, .inl (upd f i.toNatClampNeg x))))
def hw_ar (g : hw_G) (w : hw_H) (a : Nat) (i : Int32) (o : Option Nat) : Prop := ∃ (n : Nat) (f : Nat → Option Nat), w a = some (.inl (g.2.1 3, n, .inr (.inr (.inr (.inr f))))) ∧ vp_in i n ∧ f i.toNatClampNeg = o
def hw_aw (g : hw_G) (ci : Nat) (w : hw_H) (a : Nat) (i : Int32) (b : Nat) (w' : hw_H) : Prop := (∃ fs : List Value, w b = some (.inr (ci, fs))) ∧ ∃ (n : Nat) (f : Nat → Option Nat), w a = some (.inl (g.2.1 3, n, .inr (.inr (.inr (.inr f))))) ∧ vp_in i n ∧ w' = va_up w a (some (.inl (g.2.1 3, n, .inr (.inr (.inr (.inr (va_up f i.toNatClampNeg (some b))))))))
def hw_al (g : hw_G) (w : hw_H) (a : Nat) (x : Int32) : Prop := ∃ (t n : Nat) (f : (Nat → Int32) ⊕ (Nat → Int64) ⊕ (Nat → UInt32) ⊕ (Nat → UInt64) ⊕ (Nat → Option Nat)), t < 4 ∧ w a = some (.inl (g.2.1 t, n, f)) ∧ Int32.ofNat n = x
def hw_b (x : Int32) : Prop := x = 0 ∨ x = 1
theorem hw_b_nar {x : Int32} (h : hw_b x) : narrow .boolean (.int x) = .int x := by
  rcases h with rfl | rfl <;> rfl
theorem hw_b_fit {x : Int32} (h : hw_b x) : fits .boolean (.int x) = true := by
  rcases h with rfl | rfl <;> rfl
theorem hw_rfc (o : Option Nat) : (va_rf o).category = 1 := by cases o <;> rfl
/-- the evidence for a field of an instruction -/
def hw_F (s : State) (args : Array Value) (Ts : List Cond) (own : String) (index ci i : Nat) : Prop := ∃ (C : String) (T : u_T) (N : Nat) (ref : String), vwCl[ci]? = some (C, T, N) ∧ i < N ∧ (∀ w ∈ u_ws C T N, w ∈ Ts) ∧ ((Cond.fieldLink own index ref (T i).2.1 (T i).2.2.1).before args s = true ∨ ∃ host : String, (Cond.fieldLinkNest own index ref (T i).2.1 (T i).2.2.1 host).before args s = true) ∧ (∀ x, s.fieldFound? (T i).1 (T i).2.1 (T i).2.2.1 = some x → s.fieldFound? ref (T i).2.1 (T i).2.2.1 = some x)
def hw_FP (s : State) (args : Array Value) (Ts : List Cond) (own : String) (index ci i : Nat) (ty : FieldType) : Prop := ∃ (C : String) (T : u_T) (N : Nat) (ref : String) (ty0 : Nat → FieldType), vwCl[ci]? = some (C, T, N) ∧ i < N ∧ (∀ w ∈ u_ws C T N, w ∈ Ts) ∧ ((Cond.fieldLink own index ref (T i).2.1 (T i).2.2.1).before args s = true ∨ ∃ host : String, (Cond.fieldLinkNest own index ref (T i).2.1 (T i).2.2.1 host).before args s = true) ∧ (∀ x, s.fieldFound? (T i).1 (T i).2.1 (T i).2.2.1 = some x → s.fieldFound? ref (T i).2.1 (T i).2.2.1 = some x) ∧ (∀ k, k < N → parseFieldDescriptor (T k).2.2.1 = some (ty0 k)) ∧ (∀ a, a < N → ∀ b, b < N → a ≠ b → (T a).2.1 ≠ (T b).2.1) ∧ (T i).2.2.2 = false ∧ parseFieldDescriptor (T i).2.2.1 = some ty
def hw_FF (s : State) (args : Array Value) (Ts : List Cond) (own : String) (index ci i : Nat) (ty : FieldType) : Prop := ∃ (C : String) (T : u_T) (N : Nat) (ref : String) (ty0 : Nat → FieldType), vwCl[ci]? = some (C, T, N) ∧ i < N ∧ (∀ w ∈ u_ws C T N, w ∈ Ts) ∧ (Cond.fieldLink own index ref (T i).2.1 (T i).2.2.1).before args s = true ∧ (∀ x, s.fieldFound? (T i).1 (T i).2.1 (T i).2.2.1 = some x → s.fieldFound? ref (T i).2.1 (T i).2.2.1 = some x) ∧ (∀ k, k < N → parseFieldDescriptor (T k).2.2.1 = some (ty0 k)) ∧ (∀ a, a < N → ∀ b, b < N → a ≠ b → (T a).2.1 ≠ (T b).2.1) ∧ (T i).2.2.2 = true ∧ (T i).1 = own ∧ parseFieldDescriptor (T i).2.2.1 = some ty
/-- the evidence for a new object -/
def hw_N (s : State) (args : Array Value) (Ts : List Cond) (own : String) (index ci N : Nat) (fs : List Value) : Prop := ∃ (C : String) (T : u_T) (ty : Nat → FieldType), vwCl[ci]? = some (C, T, N) ∧ (∀ w ∈ u_ws C T N, w ∈ Ts) ∧ (∀ k, k < N → parseFieldDescriptor (T k).2.2.1 = some (ty k)) ∧ (Cond.classLink own index C).before args s = true ∧ (Cond.instantiable C N).before args s = true ∧ (Cond.initialized C).before args s = true ∧ ∀ j, j < N → defaultValue (ty j) = vp_V fs j
/-- what else every method gets: links between nest mates, the constants of text, one static field -/
def hw_E (g : hw_G) (A : Nat → Prop) (U : State) (H : Heap) : Prop := (∀ w ∈ hw_nest, va_Nw w U) ∧ vk_S hw_sN hw_sLen hw_sByt g.2.2.1 g.2.2.2 A U H ∧ (∀ q ∈ hw_sR, vk_R q.1 q.2.1 q.2.2.1 (g.2.2.1 q.2.2.2) U) ∧ va_Z "java/lang/String" "COMPACT_STRINGS" "Z" (.int 1) A U H ∧ va_AO "ProofCourt$Clause" U
def hw_isN (w : Cond) : Bool := match w with
  | .fieldLinkNest .. => true
  | .methodLinkNest .. => true
  | _ => false
theorem hw_nest_ok : hw_nest.all hw_isN = true := by decide +kernel
theorem hw_Nw_warm {w : Cond} (h : hw_isN w = true) {s U : State} (hW : s.WarmedH U.vm) (hZ : va_Nw w s) : va_Nw w U := by
  cases w <;> first | exact hZ.warmF hW | exact va_Nw.warmF hW hZ | exact va_Nw.warmM hW hZ | (simp [hw_isN] at h; done)
theorem hw_Nw_same {w : Cond} (h : hw_isN w = true) {s U : State} (hv : s.vm = U.vm) (hZ : va_Nw w s) : va_Nw w U := by
  cases w <;> first | exact va_Nw.same rfl hv hZ | (simp [hw_isN] at h; done)
theorem hw_E_warm {g : hw_G} {A B : Nat → Prop} {s U : State} {H : Heap} (h : hw_E g A s s.heap) (hW : s.WarmedH U.vm) (hk : ∀ a : Nat, a < s.heap.size → ¬ A a → H[a]? = s.heap[a]?) (hAB : ∀ q, B q → A q) : hw_E g B U H := by
  obtain ⟨h1, h2, h3, h4, h5⟩ := h
  exact ⟨fun w hw => hw_Nw_warm (List.all_eq_true.mp hw_nest_ok w hw) hW (h1 w hw), ((h2.moved hW.alike).kept hk).narrow hAB, fun q hq => (h3 q hq).warm hW, ((h4.moved hW.alike).kept hk).narrow hAB, h5.moved hW.alike⟩
theorem hw_E_same {g : hw_G} {A : Nat → Prop} {s U : State} {H : Heap} (h : hw_E g A s H) (hv : U.vm = s.vm) : hw_E g A U H := by
  obtain ⟨h1, h2, h3, h4, h5⟩ := h
  have ha : s.vm.Alike U.vm := by rw [hv]; exact Vm.Alike.refl _
  exact ⟨fun w hw => hw_Nw_same (List.all_eq_true.mp hw_nest_ok w hw) hv.symm (h1 w hw), h2.moved ha, fun q hq => (h3 q hq).same hv, h4.moved ha, h5.moved ha⟩
def hw_J (p : Program) (l : Launch) (e : Env) (R : Room) (s : State) (m : MethodId) (args : Array Value) (below : List Frame) (meth : Method) (c : Code) (Q : State → Prop) (nL : Nat) (g : hw_G) (A : Nat → Prop) (k n pc : Nat) (lv : List (Option Value)) (st : List Value) (w : hw_H) : Prop :=
  ∀ (H : Heap) (locs : List Loc) (ls : Array Slot) (ws : va_W), hw_L ls nL lv → hw_rep ws w → va_P g.1 vwCl ws H → va_D A ws → va_S A s.heap H locs → W p l e R s m args below meth c H locs k n Q (F0 m pc ls st)
def hw_X (p : Program) (m : MethodId) (c : Code) (cc : ByteArray) (nL : Nat) (s : State) (args : Array Value) (Ts : List Cond) (own : String) (g : hw_G) (A : Nat → Prop) : Prop := CallFix p m c cc nL s args Ts own ∧ va_K g.1 vwCl (hw_tys g) s ∧ (∀ q : Nat, s.heap.size ≤ q → A q) ∧ hw_E g A s s.heap
section HW
variable {p : Program} {l : Launch} {e : Env} {R : Room} {s : State} {m : MethodId} {args : Array Value} {below : List Frame} {meth : Method} {c : Code} {Q : State → Prop} {cc : ByteArray} {nL : Nat} {Ts : List Cond} {own : String} {g : hw_G} {A : Nat → Prop} {k n pc : Nat} {lv lv' : List (Option Value)} {st : List Value} {w w' : hw_H}
theorem hw_iconst (X : hw_X p m c cc nL s args Ts own g A) {z : Int} {v : Int32} (d : decode cc pc = .ok (.iconst z, 1)) (hv : Int32.ofInt z = v) (kk : hw_J p l e R s m args below meth c Q nL g A k n (pc + 1) lv (.int v :: st) w) : hw_J p l e R s m args below meth c Q nL g A k n pc lv st w := fun H locs ls ws h1 h2 h3 h4 h5 => lv_iconst X.1.1 X.1.2.1 d hv (kk H locs ls ws h1 h2 h3 h4 h5)
theorem hw_bipush (X : hw_X p m c cc nL s args Ts own g A) {z : Int} {v : Int32} (d : decode cc pc = .ok (.bipush z, 2)) (hv : (Int8.ofInt z).toInt32 = v) (kk : hw_J p l e R s m args below meth c Q nL g A k n (pc + 2) lv (.int v :: st) w) : hw_J p l e R s m args below meth c Q nL g A k n pc lv st w := fun H locs ls ws h1 h2 h3 h4 h5 => lv_bipush X.1.1 X.1.2.1 d hv (kk H locs ls ws h1 h2 h3 h4 h5)
theorem hw_sipush (X : hw_X p m c cc nL s args Ts own g A) {z : Int} {v : Int32} (d : decode cc pc = .ok (.sipush z, 3)) (hv : (Int16.ofInt z).toInt32 = v) (kk : hw_J p l e R s m args below meth c Q nL g A k n (pc + 3) lv (.int v :: st) w) : hw_J p l e R s m args below meth c Q nL g A k n pc lv st w := fun H locs ls ws h1 h2 h3 h4 h5 => lv_sipush X.1.1 X.1.2.1 d hv (kk H locs ls ws h1 h2 h3 h4 h5)
theorem hw_null (X : hw_X p m c cc nL s args Ts own g A) (d : decode cc pc = .ok (.aconst_null, 1)) (kk : hw_J p l e R s m args below meth c Q nL g A k n (pc + 1) lv (.null :: st) w) : hw_J p l e R s m args below meth c Q nL g A k n pc lv st w := fun H locs ls ws h1 h2 h3 h4 h5 => lv_null X.1.1 X.1.2.1 d (kk H locs ls ws h1 h2 h3 h4 h5)
theorem hw_ldc (X : hw_X p m c cc nL s args Ts own g A) {index : Nat} {v : Int32} (hc : (Cond.constant own index v).before args s = true) (d : decode cc pc = .ok (.ldc index, 2)) (kk : hw_J p l e R s m args below meth c Q nL g A k n (pc + 2) lv (.int v :: st) w) : hw_J p l e R s m args below meth c Q nL g A k n pc lv st w := fun H locs ls ws h1 h2 h3 h4 h5 => lv_ldc X.1.1 X.1.2.1 X.1.2.2.2.1 hc d (kk H locs ls ws h1 h2 h3 h4 h5)
theorem hw_ldc_w (X : hw_X p m c cc nL s args Ts own g A) {index : Nat} {v : Int32} (hc : (Cond.constant own index v).before args s = true) (d : decode cc pc = .ok (.ldc_w index, 3)) (kk : hw_J p l e R s m args below meth c Q nL g A k n (pc + 3) lv (.int v :: st) w) : hw_J p l e R s m args below meth c Q nL g A k n pc lv st w := fun H locs ls ws h1 h2 h3 h4 h5 => lv_ldcw X.1.1 X.1.2.1 X.1.2.2.2.1 hc d (kk H locs ls ws h1 h2 h3 h4 h5)
theorem hw_ldcS (X : hw_X p m c cc nL s args Ts own g A) {index i : Nat} {tx : String} (hc : (own, index, tx, i) ∈ hw_sR) (d : decode cc pc = .ok (.ldc index, 2)) (kk : hw_J p l e R s m args below meth c Q nL g A k n (pc + 2) lv (.ref (g.2.2.1 i) :: st) w) : hw_J p l e R s m args below meth c Q nL g A k n pc lv st w := fun H locs ls ws h1 h2 h3 h4 h5 => va_ldcS X.1.1 X.1.2.1 X.1.2.2.2.1 (X.2.2.2.2.2.1 _ hc) d (kk H locs ls ws h1 h2 h3 h4 h5)
theorem hw_iload_n (X : hw_X p m c cc nL s args Ts own g A) {i : Fin 4} {x : Int32} (d : decode cc pc = .ok (.iload_n i, 1)) (h : lv[(i : Nat)]? = some (some (.int x))) (kk : hw_J p l e R s m args below meth c Q nL g A k n (pc + 1) lv (.int x :: st) w) : hw_J p l e R s m args below meth c Q nL g A k n pc lv st w := fun H locs ls ws h1 h2 h3 h4 h5 => lv_iload_n X.1.1 X.1.2.1 d rfl (hw_L_at h1 h) (kk H locs ls ws h1 h2 h3 h4 h5)
theorem hw_iload (X : hw_X p m c cc nL s args Ts own g A) {i : Nat} {x : Int32} (d : decode cc pc = .ok (.iload i, 2)) (h : lv[i]? = some (some (.int x))) (kk : hw_J p l e R s m args below meth c Q nL g A k n (pc + 2) lv (.int x :: st) w) : hw_J p l e R s m args below meth c Q nL g A k n pc lv st w := fun H locs ls ws h1 h2 h3 h4 h5 => lv_iload X.1.1 X.1.2.1 d (hw_L_at h1 h) (kk H locs ls ws h1 h2 h3 h4 h5)
theorem hw_aload_n (X : hw_X p m c cc nL s args Ts own g A) {i : Fin 4} {v : Value} (hv : v = .null ∨ ∃ a, v = .ref a) (d : decode cc pc = .ok (.aload_n i, 1)) (h : lv[(i : Nat)]? = some (some v)) (kk : hw_J p l e R s m args below meth c Q nL g A k n (pc + 1) lv (v :: st) w) : hw_J p l e R s m args below meth c Q nL g A k n pc lv st w := by
  intro H locs ls ws h1 h2 h3 h4 h5
  rcases hv with rfl | ⟨a, rfl⟩
  · exact lv_aload_nN X.1.1 X.1.2.1 d rfl (hw_L_at h1 h) (kk H locs ls ws h1 h2 h3 h4 h5)
  · exact lv_aload_n X.1.1 X.1.2.1 d rfl (hw_L_at h1 h) (kk H locs ls ws h1 h2 h3 h4 h5)
theorem hw_aload (X : hw_X p m c cc nL s args Ts own g A) {i : Nat} {v : Value} (hv : v = .null ∨ ∃ a, v = .ref a) (d : decode cc pc = .ok (.aload i, 2)) (h : lv[i]? = some (some v)) (kk : hw_J p l e R s m args below meth c Q nL g A k n (pc + 2) lv (v :: st) w) : hw_J p l e R s m args below meth c Q nL g A k n pc lv st w := by
  intro H locs ls ws h1 h2 h3 h4 h5
  rcases hv with rfl | ⟨a, rfl⟩
  · exact lv_aloadN X.1.1 X.1.2.1 d (hw_L_at h1 h) (kk H locs ls ws h1 h2 h3 h4 h5)
  · exact lv_aload X.1.1 X.1.2.1 d (hw_L_at h1 h) (kk H locs ls ws h1 h2 h3 h4 h5)
theorem hw_istore_n (X : hw_X p m c cc nL s args Ts own g A) {i : Fin 4} {x : Int32} (d : decode cc pc = .ok (.istore_n i, 1)) (hn : (i : Nat) < nL) (hl : lv.set (i : Nat) (some (.int x)) = lv') (kk : hw_J p l e R s m args below meth c Q nL g A k n (pc + 1) lv' st w) : hw_J p l e R s m args below meth c Q nL g A k n pc lv (.int x :: st) w := by
  intro H locs ls ws h1 h2 h3 h4 h5
  obtain ⟨l9, g1, g2⟩ := h1
  refine lv_istore_n X.1.1 X.1.2.1 d rfl g1 hn rfl (fun ls' g3 => ?_)
  exact kk H locs ls' ws (hl ▸ hw_L_set g2 g3 rfl) h2 h3 h4 h5
theorem hw_istore (X : hw_X p m c cc nL s args Ts own g A) {i : Nat} {x : Int32} (d : decode cc pc = .ok (.istore i, 2)) (hn : i < nL) (hl : lv.set i (some (.int x)) = lv') (kk : hw_J p l e R s m args below meth c Q nL g A k n (pc + 2) lv' st w) : hw_J p l e R s m args below meth c Q nL g A k n pc lv (.int x :: st) w := by
  intro H locs ls ws h1 h2 h3 h4 h5
  obtain ⟨l9, g1, g2⟩ := h1
  refine lv_istore X.1.1 X.1.2.1 d g1 hn rfl (fun ls' g3 => ?_)
  exact kk H locs ls' ws (hl ▸ hw_L_set g2 g3 rfl) h2 h3 h4 h5
theorem hw_astore_n (X : hw_X p m c cc nL s args Ts own g A) {i : Fin 4} {v : Value} (hv : v = .null ∨ ∃ a, v = .ref a) (d : decode cc pc = .ok (.astore_n i, 1)) (hn : (i : Nat) < nL) (hl : lv.set (i : Nat) (some v) = lv') (kk : hw_J p l e R s m args below meth c Q nL g A k n (pc + 1) lv' st w) : hw_J p l e R s m args below meth c Q nL g A k n pc lv (v :: st) w := by
  intro H locs ls ws h1 h2 h3 h4 h5
  obtain ⟨l9, g1, g2⟩ := h1
  rcases hv with rfl | ⟨a, rfl⟩
  · refine lv_astore_nN X.1.1 X.1.2.1 d rfl g1 hn rfl (fun ls' g3 => ?_)
    exact kk H locs ls' ws (hl ▸ hw_L_set g2 g3 rfl) h2 h3 h4 h5
  · refine lv_astore_n X.1.1 X.1.2.1 d rfl g1 hn rfl (fun ls' g3 => ?_)
    exact kk H locs ls' ws (hl ▸ hw_L_set g2 g3 rfl) h2 h3 h4 h5
theorem hw_astore (X : hw_X p m c cc nL s args Ts own g A) {i : Nat} {v : Value} (hv : v = .null ∨ ∃ a, v = .ref a) (d : decode cc pc = .ok (.astore i, 2)) (hn : i < nL) (hl : lv.set i (some v) = lv') (kk : hw_J p l e R s m args below meth c Q nL g A k n (pc + 2) lv' st w) : hw_J p l e R s m args below meth c Q nL g A k n pc lv (v :: st) w := by
  intro H locs ls ws h1 h2 h3 h4 h5
  obtain ⟨l9, g1, g2⟩ := h1
  rcases hv with rfl | ⟨a, rfl⟩
  · refine lv_astoreN X.1.1 X.1.2.1 d g1 hn rfl (fun ls' g3 => ?_)
    exact kk H locs ls' ws (hl ▸ hw_L_set g2 g3 rfl) h2 h3 h4 h5
  · refine lv_astore X.1.1 X.1.2.1 d g1 hn rfl (fun ls' g3 => ?_)
    exact kk H locs ls' ws (hl ▸ hw_L_set g2 g3 rfl) h2 h3 h4 h5
theorem hw_iinc (X : hw_X p m c cc nL s args Ts own g A) {i : Nat} {z : Int} {x v : Int32} (d : decode cc pc = .ok (.iinc i z, 3)) (h : lv[i]? = some (some (.int x))) (hv : x + Int32.ofInt z = v) (hn : i < nL) (hl : lv.set i (some (.int v)) = lv') (kk : hw_J p l e R s m args below meth c Q nL g A k n (pc + 3) lv' st w) : hw_J p l e R s m args below meth c Q nL g A k n pc lv st w := by
  intro H locs ls ws h1 h2 h3 h4 h5
  obtain ⟨l9, g1, g2⟩ := h1
  obtain ⟨k9, hk⟩ := List.getElem?_of_mem (g2 _ _ h).1
  refine lv_iinc X.1.1 X.1.2.1 d g1 hk hv hn rfl (fun ls' g3 => ?_)
  exact kk H locs ls' ws (hl ▸ hw_L_set g2 g3 rfl) h2 h3 h4 h5
theorem hw_iadd (X : hw_X p m c cc nL s args Ts own g A) {x y : Int32} (d : decode cc pc = .ok (.iadd, 1)) (kk : hw_J p l e R s m args below meth c Q nL g A k n (pc + 1) lv (.int (x + y) :: st) w) : hw_J p l e R s m args below meth c Q nL g A k n pc lv (.int y :: .int x :: st) w := fun H locs ls ws h1 h2 h3 h4 h5 => lv_iadd X.1.1 X.1.2.1 d (kk H locs ls ws h1 h2 h3 h4 h5)
theorem hw_isub (X : hw_X p m c cc nL s args Ts own g A) {x y : Int32} (d : decode cc pc = .ok (.isub, 1)) (kk : hw_J p l e R s m args below meth c Q nL g A k n (pc + 1) lv (.int (x - y) :: st) w) : hw_J p l e R s m args below meth c Q nL g A k n pc lv (.int y :: .int x :: st) w := fun H locs ls ws h1 h2 h3 h4 h5 => lv_isub X.1.1 X.1.2.1 d (kk H locs ls ws h1 h2 h3 h4 h5)
theorem hw_imul (X : hw_X p m c cc nL s args Ts own g A) {x y : Int32} (d : decode cc pc = .ok (.imul, 1)) (kk : hw_J p l e R s m args below meth c Q nL g A k n (pc + 1) lv (.int (x * y) :: st) w) : hw_J p l e R s m args below meth c Q nL g A k n pc lv (.int y :: .int x :: st) w := fun H locs ls ws h1 h2 h3 h4 h5 => lv_imul X.1.1 X.1.2.1 d (kk H locs ls ws h1 h2 h3 h4 h5)
theorem hw_iand (X : hw_X p m c cc nL s args Ts own g A) {x y : Int32} (d : decode cc pc = .ok (.iand, 1)) (kk : hw_J p l e R s m args below meth c Q nL g A k n (pc + 1) lv (.int (x &&& y) :: st) w) : hw_J p l e R s m args below meth c Q nL g A k n pc lv (.int y :: .int x :: st) w := fun H locs ls ws h1 h2 h3 h4 h5 => lv_iand X.1.1 X.1.2.1 d (kk H locs ls ws h1 h2 h3 h4 h5)
theorem hw_ior (X : hw_X p m c cc nL s args Ts own g A) {x y : Int32} (d : decode cc pc = .ok (.ior, 1)) (kk : hw_J p l e R s m args below meth c Q nL g A k n (pc + 1) lv (.int (x ||| y) :: st) w) : hw_J p l e R s m args below meth c Q nL g A k n pc lv (.int y :: .int x :: st) w := fun H locs ls ws h1 h2 h3 h4 h5 => lv_ior X.1.1 X.1.2.1 d (kk H locs ls ws h1 h2 h3 h4 h5)
theorem hw_ixor (X : hw_X p m c cc nL s args Ts own g A) {x y : Int32} (d : decode cc pc = .ok (.ixor, 1)) (kk : hw_J p l e R s m args below meth c Q nL g A k n (pc + 1) lv (.int (x ^^^ y) :: st) w) : hw_J p l e R s m args below meth c Q nL g A k n pc lv (.int y :: .int x :: st) w := fun H locs ls ws h1 h2 h3 h4 h5 => lv_ixor X.1.1 X.1.2.1 d (kk H locs ls ws h1 h2 h3 h4 h5)
theorem hw_ishl (X : hw_X p m c cc nL s args Ts own g A) {x y : Int32} (d : decode cc pc = .ok (.ishl, 1)) (kk : hw_J p l e R s m args below meth c Q nL g A k n (pc + 1) lv (.int (x <<< (y &&& 31)) :: st) w) : hw_J p l e R s m args below meth c Q nL g A k n pc lv (.int y :: .int x :: st) w := fun H locs ls ws h1 h2 h3 h4 h5 => lv_ishl X.1.1 X.1.2.1 d (kk H locs ls ws h1 h2 h3 h4 h5)
theorem hw_ishr (X : hw_X p m c cc nL s args Ts own g A) {x y : Int32} (d : decode cc pc = .ok (.ishr, 1)) (kk : hw_J p l e R s m args below meth c Q nL g A k n (pc + 1) lv (.int (x >>> (y &&& 31)) :: st) w) : hw_J p l e R s m args below meth c Q nL g A k n pc lv (.int y :: .int x :: st) w := fun H locs ls ws h1 h2 h3 h4 h5 => lv_ishr X.1.1 X.1.2.1 d (kk H locs ls ws h1 h2 h3 h4 h5)
theorem hw_ineg (X : hw_X p m c cc nL s args Ts own g A) {x : Int32} (d : decode cc pc = .ok (.ineg, 1)) (kk : hw_J p l e R s m args below meth c Q nL g A k n (pc + 1) lv (.int (-x) :: st) w) : hw_J p l e R s m args below meth c Q nL g A k n pc lv (.int x :: st) w := fun H locs ls ws h1 h2 h3 h4 h5 => lv_ineg X.1.1 X.1.2.1 d (kk H locs ls ws h1 h2 h3 h4 h5)
theorem hw_iushr (X : hw_X p m c cc nL s args Ts own g A) {x y v : Int32} (hv : (x.toUInt32 >>> (y.toUInt32 &&& Int32.toUInt32 31)).toInt32 = v) (d : decode cc pc = .ok (.iushr, 1)) (kk : hw_J p l e R s m args below meth c Q nL g A k n (pc + 1) lv (.int v :: st) w) : hw_J p l e R s m args below meth c Q nL g A k n pc lv (.int y :: .int x :: st) w := fun H locs ls ws h1 h2 h3 h4 h5 => lv_iushr X.1.1 X.1.2.1 d hv (kk H locs ls ws h1 h2 h3 h4 h5)
theorem hw_i2c (X : hw_X p m c cc nL s args Ts own g A) {x : Int32} (d : decode cc pc = .ok (.i2c, 1)) (kk : hw_J p l e R s m args below meth c Q nL g A k n (pc + 1) lv (.int ((x.toUInt32 % 65536).toInt32) :: st) w) : hw_J p l e R s m args below meth c Q nL g A k n pc lv (.int x :: st) w := fun H locs ls ws h1 h2 h3 h4 h5 => lv_i2c X.1.1 X.1.2.1 d rfl (kk H locs ls ws h1 h2 h3 h4 h5)
theorem hw_dup (X : hw_X p m c cc nL s args Ts own g A) {v : Value} (hv : v.category = 1) (d : decode cc pc = .ok (.dup, 1)) (kk : hw_J p l e R s m args below meth c Q nL g A k n (pc + 1) lv (v :: v :: st) w) : hw_J p l e R s m args below meth c Q nL g A k n pc lv (v :: st) w := fun H locs ls ws h1 h2 h3 h4 h5 => lv_dup X.1.1 X.1.2.1 d hv (kk H locs ls ws h1 h2 h3 h4 h5)
theorem hw_pop (X : hw_X p m c cc nL s args Ts own g A) {v : Value} (hv : v.category = 1) (d : decode cc pc = .ok (.pop, 1)) (kk : hw_J p l e R s m args below meth c Q nL g A k n (pc + 1) lv st w) : hw_J p l e R s m args below meth c Q nL g A k n pc lv (v :: st) w := fun H locs ls ws h1 h2 h3 h4 h5 => lv_pop X.1.1 X.1.2.1 d hv (kk H locs ls ws h1 h2 h3 h4 h5)
theorem hw_dup_x1 (X : hw_X p m c cc nL s args Ts own g A) {v u : Value} (hv : v.category = 1) (hu : u.category = 1) (d : decode cc pc = .ok (.dup_x1, 1)) (kk : hw_J p l e R s m args below meth c Q nL g A k n (pc + 1) lv (v :: u :: v :: st) w) : hw_J p l e R s m args below meth c Q nL g A k n pc lv (v :: u :: st) w := fun H locs ls ws h1 h2 h3 h4 h5 => lv_dup_x1 X.1.1 X.1.2.1 d hv hu (kk H locs ls ws h1 h2 h3 h4 h5)
theorem hw_dup_x2 (X : hw_X p m c cc nL s args Ts own g A) {v u z : Value} (hv : v.category = 1) (hu : u.category = 1) (hz : z.category = 1) (d : decode cc pc = .ok (.dup_x2, 1)) (kk : hw_J p l e R s m args below meth c Q nL g A k n (pc + 1) lv (v :: u :: z :: v :: st) w) : hw_J p l e R s m args below meth c Q nL g A k n pc lv (v :: u :: z :: st) w := fun H locs ls ws h1 h2 h3 h4 h5 => lv_dup_x2 X.1.1 X.1.2.1 d hv hu hz (kk H locs ls ws h1 h2 h3 h4 h5)
theorem hw_dup2 (X : hw_X p m c cc nL s args Ts own g A) {v u : Value} (hv : v.category = 1) (hu : u.category = 1) (d : decode cc pc = .ok (.dup2, 1)) (kk : hw_J p l e R s m args below meth c Q nL g A k n (pc + 1) lv (v :: u :: v :: u :: st) w) : hw_J p l e R s m args below meth c Q nL g A k n pc lv (v :: u :: st) w := fun H locs ls ws h1 h2 h3 h4 h5 => lv_dup2_11 X.1.1 X.1.2.1 d hv hu (kk H locs ls ws h1 h2 h3 h4 h5)
theorem hw_if_eq (X : hw_X p m c cc nL s args Ts own g A) {x : Int32} {off : Int} {tgt : Nat} (d : decode cc pc = .ok (.ifCond .eq off, 3)) (ht : (pc : Int) + off = (tgt : Int)) (kt : x = 0 → hw_J p l e R s m args below meth c Q nL g A k n tgt lv st w) (kf : ¬ x = 0 → hw_J p l e R s m args below meth c Q nL g A k n (pc + 3) lv st w) : hw_J p l e R s m args below meth c Q nL g A k n pc lv (.int x :: st) w := fun H locs ls ws h1 h2 h3 h4 h5 => lv_if_eq X.1.1 X.1.2.1 d ht (fun z => kt z H locs ls ws h1 h2 h3 h4 h5) (fun z => kf z H locs ls ws h1 h2 h3 h4 h5)
theorem hw_icmp_eq (X : hw_X p m c cc nL s args Ts own g A) {x y : Int32} {off : Int} {tgt : Nat} (d : decode cc pc = .ok (.if_icmp .eq off, 3)) (ht : (pc : Int) + off = (tgt : Int)) (kt : x = y → hw_J p l e R s m args below meth c Q nL g A k n tgt lv st w) (kf : ¬ x = y → hw_J p l e R s m args below meth c Q nL g A k n (pc + 3) lv st w) : hw_J p l e R s m args below meth c Q nL g A k n pc lv (.int y :: .int x :: st) w := fun H locs ls ws h1 h2 h3 h4 h5 => lv_icmp_eq X.1.1 X.1.2.1 d ht (fun z => kt z H locs ls ws h1 h2 h3 h4 h5) (fun z => kf z H locs ls ws h1 h2 h3 h4 h5)
theorem hw_if_ne (X : hw_X p m c cc nL s args Ts own g A) {x : Int32} {off : Int} {tgt : Nat} (d : decode cc pc = .ok (.ifCond .ne off, 3)) (ht : (pc : Int) + off = (tgt : Int)) (kt : ¬ x = 0 → hw_J p l e R s m args below meth c Q nL g A k n tgt lv st w) (kf : x = 0 → hw_J p l e R s m args below meth c Q nL g A k n (pc + 3) lv st w) : hw_J p l e R s m args below meth c Q nL g A k n pc lv (.int x :: st) w := fun H locs ls ws h1 h2 h3 h4 h5 => lv_if_ne X.1.1 X.1.2.1 d ht (fun z => kt z H locs ls ws h1 h2 h3 h4 h5) (fun z => kf z H locs ls ws h1 h2 h3 h4 h5)
theorem hw_icmp_ne (X : hw_X p m c cc nL s args Ts own g A) {x y : Int32} {off : Int} {tgt : Nat} (d : decode cc pc = .ok (.if_icmp .ne off, 3)) (ht : (pc : Int) + off = (tgt : Int)) (kt : ¬ x = y → hw_J p l e R s m args below meth c Q nL g A k n tgt lv st w) (kf : x = y → hw_J p l e R s m args below meth c Q nL g A k n (pc + 3) lv st w) : hw_J p l e R s m args below meth c Q nL g A k n pc lv (.int y :: .int x :: st) w := fun H locs ls ws h1 h2 h3 h4 h5 => lv_icmp_ne X.1.1 X.1.2.1 d ht (fun z => kt z H locs ls ws h1 h2 h3 h4 h5) (fun z => kf z H locs ls ws h1 h2 h3 h4 h5)
theorem hw_if_lt (X : hw_X p m c cc nL s args Ts own g A) {x : Int32} {off : Int} {tgt : Nat} (d : decode cc pc = .ok (.ifCond .lt off, 3)) (ht : (pc : Int) + off = (tgt : Int)) (kt : x < 0 → hw_J p l e R s m args below meth c Q nL g A k n tgt lv st w) (kf : ¬ x < 0 → hw_J p l e R s m args below meth c Q nL g A k n (pc + 3) lv st w) : hw_J p l e R s m args below meth c Q nL g A k n pc lv (.int x :: st) w := fun H locs ls ws h1 h2 h3 h4 h5 => lv_if_lt X.1.1 X.1.2.1 d ht (fun z => kt z H locs ls ws h1 h2 h3 h4 h5) (fun z => kf z H locs ls ws h1 h2 h3 h4 h5)
theorem hw_icmp_lt (X : hw_X p m c cc nL s args Ts own g A) {x y : Int32} {off : Int} {tgt : Nat} (d : decode cc pc = .ok (.if_icmp .lt off, 3)) (ht : (pc : Int) + off = (tgt : Int)) (kt : x < y → hw_J p l e R s m args below meth c Q nL g A k n tgt lv st w) (kf : ¬ x < y → hw_J p l e R s m args below meth c Q nL g A k n (pc + 3) lv st w) : hw_J p l e R s m args below meth c Q nL g A k n pc lv (.int y :: .int x :: st) w := fun H locs ls ws h1 h2 h3 h4 h5 => lv_icmp_lt X.1.1 X.1.2.1 d ht (fun z => kt z H locs ls ws h1 h2 h3 h4 h5) (fun z => kf z H locs ls ws h1 h2 h3 h4 h5)
theorem hw_if_ge (X : hw_X p m c cc nL s args Ts own g A) {x : Int32} {off : Int} {tgt : Nat} (d : decode cc pc = .ok (.ifCond .ge off, 3)) (ht : (pc : Int) + off = (tgt : Int)) (kt : 0 ≤ x → hw_J p l e R s m args below meth c Q nL g A k n tgt lv st w) (kf : ¬ 0 ≤ x → hw_J p l e R s m args below meth c Q nL g A k n (pc + 3) lv st w) : hw_J p l e R s m args below meth c Q nL g A k n pc lv (.int x :: st) w := fun H locs ls ws h1 h2 h3 h4 h5 => lv_if_ge X.1.1 X.1.2.1 d ht (fun z => kt z H locs ls ws h1 h2 h3 h4 h5) (fun z => kf z H locs ls ws h1 h2 h3 h4 h5)
theorem hw_icmp_ge (X : hw_X p m c cc nL s args Ts own g A) {x y : Int32} {off : Int} {tgt : Nat} (d : decode cc pc = .ok (.if_icmp .ge off, 3)) (ht : (pc : Int) + off = (tgt : Int)) (kt : y ≤ x → hw_J p l e R s m args below meth c Q nL g A k n tgt lv st w) (kf : ¬ y ≤ x → hw_J p l e R s m args below meth c Q nL g A k n (pc + 3) lv st w) : hw_J p l e R s m args below meth c Q nL g A k n pc lv (.int y :: .int x :: st) w := fun H locs ls ws h1 h2 h3 h4 h5 => lv_icmp_ge X.1.1 X.1.2.1 d ht (fun z => kt z H locs ls ws h1 h2 h3 h4 h5) (fun z => kf z H locs ls ws h1 h2 h3 h4 h5)
theorem hw_if_gt (X : hw_X p m c cc nL s args Ts own g A) {x : Int32} {off : Int} {tgt : Nat} (d : decode cc pc = .ok (.ifCond .gt off, 3)) (ht : (pc : Int) + off = (tgt : Int)) (kt : 0 < x → hw_J p l e R s m args below meth c Q nL g A k n tgt lv st w) (kf : ¬ 0 < x → hw_J p l e R s m args below meth c Q nL g A k n (pc + 3) lv st w) : hw_J p l e R s m args below meth c Q nL g A k n pc lv (.int x :: st) w := fun H locs ls ws h1 h2 h3 h4 h5 => lv_if_gt X.1.1 X.1.2.1 d ht (fun z => kt z H locs ls ws h1 h2 h3 h4 h5) (fun z => kf z H locs ls ws h1 h2 h3 h4 h5)
theorem hw_icmp_gt (X : hw_X p m c cc nL s args Ts own g A) {x y : Int32} {off : Int} {tgt : Nat} (d : decode cc pc = .ok (.if_icmp .gt off, 3)) (ht : (pc : Int) + off = (tgt : Int)) (kt : y < x → hw_J p l e R s m args below meth c Q nL g A k n tgt lv st w) (kf : ¬ y < x → hw_J p l e R s m args below meth c Q nL g A k n (pc + 3) lv st w) : hw_J p l e R s m args below meth c Q nL g A k n pc lv (.int y :: .int x :: st) w := fun H locs ls ws h1 h2 h3 h4 h5 => lv_icmp_gt X.1.1 X.1.2.1 d ht (fun z => kt z H locs ls ws h1 h2 h3 h4 h5) (fun z => kf z H locs ls ws h1 h2 h3 h4 h5)
theorem hw_if_le (X : hw_X p m c cc nL s args Ts own g A) {x : Int32} {off : Int} {tgt : Nat} (d : decode cc pc = .ok (.ifCond .le off, 3)) (ht : (pc : Int) + off = (tgt : Int)) (kt : x ≤ 0 → hw_J p l e R s m args below meth c Q nL g A k n tgt lv st w) (kf : ¬ x ≤ 0 → hw_J p l e R s m args below meth c Q nL g A k n (pc + 3) lv st w) : hw_J p l e R s m args below meth c Q nL g A k n pc lv (.int x :: st) w := fun H locs ls ws h1 h2 h3 h4 h5 => lv_if_le X.1.1 X.1.2.1 d ht (fun z => kt z H locs ls ws h1 h2 h3 h4 h5) (fun z => kf z H locs ls ws h1 h2 h3 h4 h5)
theorem hw_icmp_le (X : hw_X p m c cc nL s args Ts own g A) {x y : Int32} {off : Int} {tgt : Nat} (d : decode cc pc = .ok (.if_icmp .le off, 3)) (ht : (pc : Int) + off = (tgt : Int)) (kt : x ≤ y → hw_J p l e R s m args below meth c Q nL g A k n tgt lv st w) (kf : ¬ x ≤ y → hw_J p l e R s m args below meth c Q nL g A k n (pc + 3) lv st w) : hw_J p l e R s m args below meth c Q nL g A k n pc lv (.int y :: .int x :: st) w := fun H locs ls ws h1 h2 h3 h4 h5 => lv_icmp_le X.1.1 X.1.2.1 d ht (fun z => kt z H locs ls ws h1 h2 h3 h4 h5) (fun z => kf z H locs ls ws h1 h2 h3 h4 h5)
theorem hw_goto (X : hw_X p m c cc nL s args Ts own g A) {off : Int} {tgt : Nat} (d : decode cc pc = .ok (.goto off, 3)) (ht : (pc : Int) + off = (tgt : Int)) (kk : hw_J p l e R s m args below meth c Q nL g A k n tgt lv st w) : hw_J p l e R s m args below meth c Q nL g A k n pc lv st w := fun H locs ls ws h1 h2 h3 h4 h5 => lv_goto X.1.1 X.1.2.1 d ht (kk H locs ls ws h1 h2 h3 h4 h5)
theorem hw_ifnull (X : hw_X p m c cc nL s args Ts own g A) {o : Option Nat} {off : Int} {tgt : Nat} (d : decode cc pc = .ok (.ifnull off, 3)) (ht : (pc : Int) + off = (tgt : Int)) (kt : o = none → hw_J p l e R s m args below meth c Q nL g A k n tgt lv st w) (kf : ∀ a : Nat, o = some a → hw_J p l e R s m args below meth c Q nL g A k n (pc + 3) lv st w) : hw_J p l e R s m args below meth c Q nL g A k n pc lv (va_rf o :: st) w := by
  intro H locs ls ws h1 h2 h3 h4 h5
  cases o with
  | none => exact lv_ifnullN X.1.1 X.1.2.1 d ht (kt rfl H locs ls ws h1 h2 h3 h4 h5)
  | some a => exact lv_ifnull X.1.1 X.1.2.1 d (kf a rfl H locs ls ws h1 h2 h3 h4 h5)
theorem hw_ifnonnull (X : hw_X p m c cc nL s args Ts own g A) {o : Option Nat} {off : Int} {tgt : Nat} (d : decode cc pc = .ok (.ifnonnull off, 3)) (ht : (pc : Int) + off = (tgt : Int)) (kt : ∀ a : Nat, o = some a → hw_J p l e R s m args below meth c Q nL g A k n tgt lv st w) (kf : o = none → hw_J p l e R s m args below meth c Q nL g A k n (pc + 3) lv st w) : hw_J p l e R s m args below meth c Q nL g A k n pc lv (va_rf o :: st) w := by
  intro H locs ls ws h1 h2 h3 h4 h5
  cases o with
  | none => exact lv_ifnonnullN X.1.1 X.1.2.1 d (kf rfl H locs ls ws h1 h2 h3 h4 h5)
  | some a => exact lv_ifnonnull X.1.1 X.1.2.1 d ht (kt a rfl H locs ls ws h1 h2 h3 h4 h5)
theorem hw_get (X : hw_X p m c cc nL s args Ts own g A) {a ci i index : Nat} {v : Value} (F : hw_F s args Ts own index ci i) (h : hw_g w a ci i v) (d : decode cc pc = .ok (.getfield index, 3)) (kk : hw_J p l e R s m args below meth c Q nL g A k n (pc + 3) lv (v :: st) w) : hw_J p l e R s m args below meth c Q nL g A k n pc lv (.ref a :: st) w := by
  intro H locs ls ws h1 h2 h3 h4 h5
  obtain ⟨fs, e1, e2⟩ := h
  obtain ⟨q0, hq⟩ := List.getElem?_of_mem ((h2 _ _).mp e1)
  obtain ⟨C, T, N, ref, f1, f2, f3, f4, f5⟩ := F
  rcases f4 with f4 | ⟨host, f4⟩
  · exact va_get X.1.1 X.1.2.1 X.1.2.2.2.2 f3 X.1.2.2.2.1 X.2.1 h3 q0 hq f1 i f2 f4 f5 e2 d (kk H locs ls ws h1 h2 h3 h4 h5)
  · exact va_getN X.1.1 X.1.2.1 X.1.2.2.2.2 f3 X.1.2.2.2.1 X.2.1 h3 q0 hq f1 i f2 f4 f5 e2 d (kk H locs ls ws h1 h2 h3 h4 h5)
theorem hw_put (X : hw_X p m c cc nL s args Ts own g A) {a ci i index : Nat} {ty : FieldType} {v : Value} (F : hw_FP s args Ts own index ci i ty) (hn : narrow ty v = v) (hfit : fits ty v = true) (h : hw_p w a ci i v w') (d : decode cc pc = .ok (.putfield index, 3)) (kk : hw_J p l e R s m args below meth c Q nL g A k n (pc + 3) lv st w') : hw_J p l e R s m args below meth c Q nL g A k n pc lv (v :: .ref a :: st) w := by
  intro H locs ls ws h1 h2 h3 h4 h5
  obtain ⟨fs, e1, e2, e3⟩ := h
  subst e3
  obtain ⟨q0, hq⟩ := List.getElem?_of_mem ((h2 _ _).mp e1)
  obtain ⟨C, T, N, ref, ty0, f1, f2, f3, f4, f5, f6, f7, f8, f9⟩ := F
  rcases f4 with f4 | ⟨host, f4⟩
  · exact va_put X.1.1 X.1.2.1 X.1.2.2.2.2 f3 ty0 f6 f7 X.1.2.2.2.1 X.2.1 h3 h4 h5 q0 hq f1 i f2 f4 f5 f8 f9 hn hfit e2 d (fun H1 locs1 j1 j2 j3 => kk H1 locs1 ls _ h1 (hw_rep_set h2 h4 hq) j1 j2 j3)
  · exact va_putN X.1.1 X.1.2.1 X.1.2.2.2.2 f3 ty0 f6 f7 X.1.2.2.2.1 X.2.1 h3 h4 h5 q0 hq f1 i f2 f4 f5 f8 f9 hn hfit e2 d (fun H1 locs1 j1 j2 j3 => kk H1 locs1 ls _ h1 (hw_rep_set h2 h4 hq) j1 j2 j3)
theorem hw_putF (X : hw_X p m c cc nL s args Ts own g A) {a ci i index : Nat} {ty : FieldType} {v : Value} (F : hw_FF s args Ts own index ci i ty) (hi : meth.name = "<init>") (hn : narrow ty v = v) (hfit : fits ty v = true) (h : hw_p w a ci i v w') (d : decode cc pc = .ok (.putfield index, 3)) (kk : hw_J p l e R s m args below meth c Q nL g A k n (pc + 3) lv st w') : hw_J p l e R s m args below meth c Q nL g A k n pc lv (v :: .ref a :: st) w := by
  intro H locs ls ws h1 h2 h3 h4 h5
  obtain ⟨fs, e1, e2, e3⟩ := h
  subst e3
  obtain ⟨q0, hq⟩ := List.getElem?_of_mem ((h2 _ _).mp e1)
  obtain ⟨C, T, N, ref, ty0, f1, f2, f3, f4, f5, f6, f7, f8, f8b, f9⟩ := F
  exact va_putF X.1.1 X.1.2.1 X.1.2.2.2.2 f3 ty0 f6 f7 X.1.2.2.2.1 X.2.1 h3 h4 h5 q0 hq f1 i f2 f4 f5 f8 hi f8b f9 hn hfit e2 d (fun H1 locs1 j1 j2 j3 => kk H1 locs1 ls _ h1 (hw_rep_set h2 h4 hq) j1 j2 j3)
theorem hw_iald (X : hw_X p m c cc nL s args Ts own g A) {a : Nat} {i x : Int32} (h : hw_ai g 0 w a i x) (d : decode cc pc = .ok (.iaload, 1)) (kk : hw_J p l e R s m args below meth c Q nL g A k n (pc + 1) lv (.int x :: st) w) : hw_J p l e R s m args below meth c Q nL g A k n pc lv (.int i :: .ref a :: st) w := by
  intro H locs ls ws h1 h2 h3 h4 h5
  obtain ⟨n9, f, e1, e2, rfl⟩ := h
  obtain ⟨q0, hq⟩ := List.getElem?_of_mem ((h2 _ _).mp e1)
  exact va_iald X.1.1 X.1.2.1 X.2.1 h3 q0 0 hq rfl e2 d (kk H locs ls ws h1 h2 h3 h4 h5)
theorem hw_cald (X : hw_X p m c cc nL s args Ts own g A) {a : Nat} {i x : Int32} (h : hw_ai g 1 w a i x) (d : decode cc pc = .ok (.caload, 1)) (kk : hw_J p l e R s m args below meth c Q nL g A k n (pc + 1) lv (.int x :: st) w) : hw_J p l e R s m args below meth c Q nL g A k n pc lv (.int i :: .ref a :: st) w := by
  intro H locs ls ws h1 h2 h3 h4 h5
  obtain ⟨n9, f, e1, e2, rfl⟩ := h
  obtain ⟨q0, hq⟩ := List.getElem?_of_mem ((h2 _ _).mp e1)
  exact va_cald X.1.1 X.1.2.1 X.2.1 h3 q0 1 hq rfl e2 d (kk H locs ls ws h1 h2 h3 h4 h5)
theorem hw_zald (X : hw_X p m c cc nL s args Ts own g A) {a : Nat} {i x : Int32} (h : hw_ai g 2 w a i x) (d : decode cc pc = .ok (.baload, 1)) (kk : hw_J p l e R s m args below meth c Q nL g A k n (pc + 1) lv (.int x :: st) w) : hw_J p l e R s m args below meth c Q nL g A k n pc lv (.int i :: .ref a :: st) w := by
  intro H locs ls ws h1 h2 h3 h4 h5
  obtain ⟨n9, f, e1, e2, rfl⟩ := h
  obtain ⟨q0, hq⟩ := List.getElem?_of_mem ((h2 _ _).mp e1)
  exact va_zald X.1.1 X.1.2.1 X.2.1 h3 q0 2 hq rfl e2 d (kk H locs ls ws h1 h2 h3 h4 h5)
theorem hw_iast (X : hw_X p m c cc nL s args Ts own g A) {a : Nat} {i x : Int32} (h : hw_as g 0 w a i x w') (d : decode cc pc = .ok (.iastore, 1)) (kk : hw_J p l e R s m args below meth c Q nL g A k n (pc + 1) lv st w') : hw_J p l e R s m args below meth c Q nL g A k n pc lv (.int x :: .int i :: .ref a :: st) w := by
  intro H locs ls ws h1 h2 h3 h4 h5
  obtain ⟨n9, f, e1, e2, rfl⟩ := h
  obtain ⟨q0, hq⟩ := List.getElem?_of_mem ((h2 _ _).mp e1)
  exact va_iast X.1.1 X.1.2.1 X.2.1 h3 h4 h5 q0 0 hq rfl e2 d (fun H1 locs1 j1 j2 j3 => kk H1 locs1 ls _ h1 (hw_rep_set h2 h4 hq) j1 j2 j3)
theorem hw_cast (X : hw_X p m c cc nL s args Ts own g A) {a : Nat} {i x : Int32} (h : hw_as g 1 w a i (vp_nar .char x) w') (d : decode cc pc = .ok (.castore, 1)) (kk : hw_J p l e R s m args below meth c Q nL g A k n (pc + 1) lv st w') : hw_J p l e R s m args below meth c Q nL g A k n pc lv (.int x :: .int i :: .ref a :: st) w := by
  intro H locs ls ws h1 h2 h3 h4 h5
  obtain ⟨n9, f, e1, e2, rfl⟩ := h
  obtain ⟨q0, hq⟩ := List.getElem?_of_mem ((h2 _ _).mp e1)
  exact va_cast X.1.1 X.1.2.1 X.2.1 h3 h4 h5 q0 1 hq rfl e2 d (fun H1 locs1 j1 j2 j3 => kk H1 locs1 ls _ h1 (hw_rep_set h2 h4 hq) j1 j2 j3)
theorem hw_zast (X : hw_X p m c cc nL s args Ts own g A) {a : Nat} {i x : Int32} (h : hw_as g 2 w a i (vp_nar .boolean x) w') (d : decode cc pc = .ok (.bastore, 1)) (kk : hw_J p l e R s m args below meth c Q nL g A k n (pc + 1) lv st w') : hw_J p l e R s m args below meth c Q nL g A k n pc lv (.int x :: .int i :: .ref a :: st) w := by
  intro H locs ls ws h1 h2 h3 h4 h5
  obtain ⟨n9, f, e1, e2, rfl⟩ := h
  obtain ⟨q0, hq⟩ := List.getElem?_of_mem ((h2 _ _).mp e1)
  exact va_zast X.1.1 X.1.2.1 X.2.1 h3 h4 h5 q0 2 hq rfl e2 d (fun H1 locs1 j1 j2 j3 => kk H1 locs1 ls _ h1 (hw_rep_set h2 h4 hq) j1 j2 j3)
theorem hw_aald (X : hw_X p m c cc nL s args Ts own g A) {a : Nat} {i : Int32} {o : Option Nat} (h : hw_ar g w a i o) (d : decode cc pc = .ok (.aaload, 1)) (kk : hw_J p l e R s m args below meth c Q nL g A k n (pc + 1) lv (va_rf o :: st) w) : hw_J p l e R s m args below meth c Q nL g A k n pc lv (.int i :: .ref a :: st) w := by
  intro H locs ls ws h1 h2 h3 h4 h5
  obtain ⟨n9, f, e1, e2, rfl⟩ := h
  obtain ⟨q0, hq⟩ := List.getElem?_of_mem ((h2 _ _).mp e1)
  exact va_aldq X.1.1 X.1.2.1 X.2.1 h3 q0 3 hq rfl e2 d (kk H locs ls ws h1 h2 h3 h4 h5)
theorem hw_aast (X : hw_X p m c cc nL s args Ts own g A) {a b ci : Nat} {r : vw_C} {i : Int32} (hc : vwCl[ci]? = some r) (hr : r.1 = "ProofCourt$Clause") (h : hw_aw g ci w a i b w') (d : decode cc pc = .ok (.aastore, 1)) (kk : hw_J p l e R s m args below meth c Q nL g A k n (pc + 1) lv st w') : hw_J p l e R s m args below meth c Q nL g A k n pc lv (.ref b :: .int i :: .ref a :: st) w := by
  intro H locs ls ws h1 h2 h3 h4 h5
  obtain ⟨⟨fs, e0⟩, n9, f, e1, e2, rfl⟩ := h
  obtain ⟨q0, hq⟩ := List.getElem?_of_mem ((h2 _ _).mp e1)
  obtain ⟨qk, hk⟩ := List.getElem?_of_mem ((h2 _ _).mp e0)
  exact va_astq X.1.1 X.1.2.1 X.2.1 h3 h4 h5 q0 3 qk ci hq (by rw [hr]; rfl) hk hc e2 d (fun H1 locs1 j1 j2 j3 => kk H1 locs1 ls _ h1 (hw_rep_set h2 h4 hq) j1 j2 j3)
theorem hw_alen (X : hw_X p m c cc nL s args Ts own g A) {a : Nat} {x : Int32} (h : hw_al g w a x) (d : decode cc pc = .ok (.arraylength, 1)) (kk : hw_J p l e R s m args below meth c Q nL g A k n (pc + 1) lv (.int x :: st) w) : hw_J p l e R s m args below meth c Q nL g A k n pc lv (.ref a :: st) w := by
  intro H locs ls ws h1 h2 h3 h4 h5
  obtain ⟨t, n9, f, ht, e1, e2⟩ := h
  obtain ⟨q0, hq⟩ := List.getElem?_of_mem ((h2 _ _).mp e1)
  have ht2 : ∃ ty, (hw_tys g)[t]? = some (g.2.1 t, ty) := by
    rcases (show t = 0 ∨ t = 1 ∨ t = 2 ∨ t = 3 by omega) with rfl | rfl | rfl | rfl <;> exact ⟨_, rfl⟩
  obtain ⟨ty, ht2⟩ := ht2
  exact va_alen X.1.1 X.1.2.1 X.2.1 h3 q0 t hq ht2 e2 d (kk H locs ls ws h1 h2 h3 h4 h5)
theorem hw_new (X : hw_X p m c cc nL s args Ts own g A) {ci N index : Nat} {fs : List Value} (F : hw_N s args Ts own index ci N fs) (hc : k + 1 ≤ R.cells) (hs : n + N ≤ R.slots) (d : decode cc pc = .ok (.new index, 3)) (kk : ∀ q : Nat, w q = none → hw_J p l e R s m args below meth c Q nL g A (k + 1) (n + N) (pc + 3) lv (.ref q :: st) (va_up w q (some (.inr (ci, fs))))) : hw_J p l e R s m args below meth c Q nL g A k n pc lv st w := by
  intro H locs ls ws h1 h2 h3 h4 h5
  obtain ⟨C, T, ty, f1, f2, f3, f4, f5, f6, f7⟩ := F
  exact va_new X.1.1 X.1.2.1 X.1.2.2.2.2 f2 ty f3 X.1.2.2.2.1 f4 f5 f6 X.2.1 h3 h4 h5 X.2.2.1 f1 f7 hc hs d (fun q H1 j1 j2 j3 => kk q (hw_fresh h2 j2) H1 locs ls _ h1 (hw_rep_push h2 (hw_fresh h2 j2)) j1 j2 j3)
theorem hw_tys_one {t : Nat} {ty : FieldType} {cA : ClassId} (hn : ∀ C, ty ≠ .object C) (hK : va_K g.1 vwCl (hw_tys g ++ [(cA, ty)]) s) (ht : (hw_tys g)[t]? = some (g.2.1 t, ty)) : cA = g.2.1 t := by
  have h1 := (hK.2 4 (cA, ty) rfl).2
  have h2 := (hK.2 t (g.2.1 t, ty) (by rw [List.getElem?_append_left (List.getElem?_eq_some_iff.mp ht).1]; exact ht)).2
  cases ty <;> first | exact absurd rfl (hn _) | exact Option.some.inj (h1.symm.trans h2)
theorem hw_tys_obj {t : Nat} {C : String} {cA : ClassId} (hK : va_K g.1 vwCl (hw_tys g ++ [(cA, .object C)]) s) (ht : (hw_tys g)[t]? = some (g.2.1 t, .object C)) : cA = g.2.1 t := by
  obtain ⟨_, _, _, _, _, h1⟩ := (hK.2 4 (cA, .object C) rfl).2
  obtain ⟨_, _, _, _, _, h2⟩ := (hK.2 t (g.2.1 t, .object C) (by rw [List.getElem?_append_left (List.getElem?_eq_some_iff.mp ht).1]; exact ht)).2
  exact Option.some.inj (h1.symm.trans h2)
theorem hw_newa (X : hw_X p m c cc nL s args Ts own g A) {t N : Nat} {at_ : ArrayType} {ty : FieldType} {x : Int32} (ha : (Cond.arrayClass (newarray.typeOf at_)).before args s = true) (hty : newarray.typeOf at_ = ty) (ht : (hw_tys g)[t]? = some (g.2.1 t, ty)) (hob : ∀ C, ty ≠ .object C) (hdv : defaultValue ty = .int 0) (hx : ¬ x < 0) (hN : x.toNatClampNeg = N) (hby : N * componentBytes ty ≤ 536870912) (hc : k + 1 ≤ R.cells) (hs : n + N ≤ R.slots) (d : decode cc pc = .ok (.newarray at_, 2)) (kk : ∀ q : Nat, w q = none → hw_J p l e R s m args below meth c Q nL g A (k + 1) (n + N) (pc + 2) lv (.ref q :: st) (va_up w q (some (.inl (g.2.1 t, N, .inl (fun _ => 0)))))) : hw_J p l e R s m args below meth c Q nL g A k n pc lv (.int x :: st) w := by
  intro H locs ls ws h1 h2 h3 h4 h5
  refine va_newa (a0 := (N, .inl (fun _ => 0))) X.1.1 X.1.2.1 ha hty X.2.1 h3 h4 h5 X.2.2.1 (fun cA => by rw [hdv]; exact vp_cell_i _ _ _) hx hN hby hc hs d (fun q cA H1 j0 j1 j2 j3 => ?_)
  have e : cA = g.2.1 t := hw_tys_one hob j0 ht
  subst e
  exact kk q (hw_fresh h2 j2) H1 locs ls _ h1 (hw_rep_push h2 (hw_fresh h2 j2)) j1 j2 j3
theorem hw_newq (X : hw_X p m c cc nL s args Ts own g A) {N index : Nat} {x : Int32} (hl : (Cond.classLink own index "ProofCourt$Clause").before args s = true) (ho : va_AO "ProofCourt$Clause" s) (hx : ¬ x < 0) (hN : x.toNatClampNeg = N) (hby : N * 4 ≤ 536870912) (hc : k + 1 ≤ R.cells) (hs : n + N ≤ R.slots) (d : decode cc pc = .ok (.anewarray index, 3)) (kk : ∀ q : Nat, w q = none → hw_J p l e R s m args below meth c Q nL g A (k + 1) (n + N) (pc + 3) lv (.ref q :: st) (va_up w q (some (.inl (g.2.1 3, N, .inr (.inr (.inr (.inr (fun _ => none))))))))) : hw_J p l e R s m args below meth c Q nL g A k n pc lv (.int x :: st) w := by
  intro H locs ls ws h1 h2 h3 h4 h5
  refine va_newq X.1.1 X.1.2.1 X.1.2.2.2.1 hl ho X.2.1 h3 h4 h5 X.2.2.1 hx hN hby hc hs d (fun q cA H1 j0 j1 j2 j3 => ?_)
  have e : cA = g.2.1 3 := hw_tys_obj j0 rfl
  subst e
  exact kk q (hw_fresh h2 j2) H1 locs ls _ h1 (hw_rep_push h2 (hw_fresh h2 j2)) j1 j2 j3
theorem hw_widen {k' n' : Nat} (hk : k ≤ k') (hn : n ≤ n') (kk : hw_J p l e R s m args below meth c Q nL g A k' n' pc lv st w) : hw_J p l e R s m args below meth c Q nL g A k n pc lv st w := fun H locs ls ws h1 h2 h3 h4 h5 => W.widen hk hn (kk H locs ls ws h1 h2 h3 h4 h5)
theorem hw_top {x : Int32} (kk : ∀ y : Int32, y = x → hw_J p l e R s m args below meth c Q nL g A k n pc lv (.int y :: st) w) : hw_J p l e R s m args below meth c Q nL g A k n pc lv (.int x :: st) w := kk x rfl
end HW
end
section
/-! Contracts over the heap map: what a method gets and gives; how one is entered, called, left. -/
def hw_Pc (g : hw_G) (as : List Value) (ws : va_W) (sz : Nat) : Array Value → State → Prop := va_Pc as (fun U => U.heap.size = sz ∧ va_P g.1 vwCl ws U.heap ∧ va_K g.1 vwCl (hw_tys g) U ∧ va_D (fun _ => True) ws ∧ hw_E g (va_A ws sz) U U.heap)
def hw_B (g : hw_G) (A : Nat → Prop) : hw_H → State → Prop := fun w t => ∃ ws : va_W, hw_rep ws w ∧ va_P g.1 vwCl ws t.heap ∧ va_K g.1 vwCl (hw_tys g) t ∧ va_D A ws
def hw_Mi (l : Launch) (g : hw_G) (y : MethodName) (wc : List Cond) (rm : Room) (as : List Value) (w : hw_H) (post : Int32 → hw_H → Prop) : Prop := ∀ (ws : va_W) (sz : Nat), hw_rep ws w → Met l y wc rm (hw_Pc g as ws sz) (va_Qi post (hw_B g (va_A ws sz)) (va_A ws sz)) rm.cells rm.slots (va_A ws sz)
def hw_Mv (l : Launch) (g : hw_G) (y : MethodName) (wc : List Cond) (rm : Room) (as : List Value) (w : hw_H) (post : hw_H → Prop) : Prop := ∀ (ws : va_W) (sz : Nat), hw_rep ws w → Met l y wc rm (hw_Pc g as ws sz) (va_Qv post (hw_B g (va_A ws sz)) (va_A ws sz)) rm.cells rm.slots (va_A ws sz)
def hw_Mq (l : Launch) (g : hw_G) (y : MethodName) (wc : List Cond) (rm : Room) (as : List Value) (w : hw_H) (post : Option Nat → hw_H → Prop) : Prop := ∀ (ws : va_W) (sz : Nat), hw_rep ws w → Met l y wc rm (hw_Pc g as ws sz) (va_Qq post (hw_B g (va_A ws sz)) (va_A ws sz)) rm.cells rm.slots (va_A ws sz)
theorem hw_blind (g : hw_G) (as : List Value) (ws : va_W) (sz : Nat) : FrameBlind (hw_Pc g as ws sz) := fun a U gf mk q => by
  obtain ⟨q0, q1, qP, qK, qD, qE⟩ := q
  exact ⟨q0, q1, qP, va_K.moved (u := U) (U := U.calling gf mk a) (Vm.Alike.refl U.vm) qK, qD, hw_E_same (U := U.calling gf mk a) qE rfl⟩
/-- the rooms: by how deep a method calls -/
def hw_R (d mc ms : Nat) : Room := { frames := d, cells := mc, slots := ms, locals := 40 * d }
theorem hw_R_ok {d d' mc ms mc' ms' L : Nat} (h : d' < d) (hL : L ≤ 21) : (hw_R d' mc' ms').frames + 1 ≤ (hw_R d mc ms).frames ∧ 8 + (L + 11) + (hw_R d' mc' ms').locals ≤ (hw_R d mc ms).locals := by
  refine ⟨h, ?_⟩
  show 8 + (L + 11) + 40 * d' ≤ 40 * d
  omega
section HC
variable {p : Program} {l : Launch} {e : Env} {R : Room} {s : State} {m : MethodId} {args : Array Value} {below : List Frame} {meth : Method} {c : Code} {Q : State → Prop} {cc : ByteArray} {nL : Nat} {Ts : List Cond} {own : String} {g : hw_G} {A : Nat → Prop} {k n pc : Nat} {lv : List (Option Value)} {st st0 : List Value} {w : hw_H}
variable {y : MethodName} {bytes : ByteArray} {maxL nargs index : Nat} {ret : Option FieldType} {wc : List Cond} {C : String}
/-- evidence for a call, whatever room is asked -/
def hw_YV (s : State) (args : Array Value) (own : String) (index : Nat) (C : String) (y : MethodName) (bytes : ByteArray) (maxL : Nat) (ret : Option FieldType) (wc : List Cond) (nargs : Nat) : Prop := ∀ (R rm : Room), rm.frames + 1 ≤ R.frames → 8 + (maxL + 11) + rm.locals ≤ R.locals → (CallW R s args own C index y bytes maxL ret wc rm rm.cells rm.slots nargs ∨ ∃ host : String, va_CN R s args own index y host bytes maxL ret wc rm rm.cells rm.slots nargs ∧ (Cond.instanceMethod y).before args s = true ∧ (Cond.selects C y y).before args s = true)
def hw_YS (s : State) (args : Array Value) (own : String) (index : Nat) (y : MethodName) (bytes : ByteArray) (maxL : Nat) (ret : Option FieldType) (wc : List Cond) (nargs : Nat) : Prop := ∀ (R rm : Room), rm.frames + 1 ≤ R.frames → 8 + (maxL + 11) + rm.locals ≤ R.locals → ((CallB R s args own index y bytes maxL ret wc rm rm.cells rm.slots nargs ∧ (Cond.static y).before args s = true) ∨ ∃ host : String, va_CN R s args own index y host bytes maxL ret wc rm rm.cells rm.slots nargs ∧ (Cond.static y).before args s = true ∧ True)
def hw_YI (s : State) (args : Array Value) (own : String) (index : Nat) (y : MethodName) (bytes : ByteArray) (maxL : Nat) (wc : List Cond) (nargs : Nat) : Prop := ∀ (R rm : Room), rm.frames + 1 ≤ R.frames → 8 + (maxL + 11) + rm.locals ≤ R.locals → ((CallB R s args own index y bytes maxL none wc rm rm.cells rm.slots nargs ∧ y.name = "<init>" ∧ (Cond.instanceMethod y).before args s = true) ∨ ∃ host : String, va_CN R s args own index y host bytes maxL none wc rm rm.cells rm.slots nargs ∧ y.name = "<init>" ∧ (Cond.instanceMethod y).before args s = true)
theorem hw_L_size {ls : Array Slot} (h : hw_L ls nL lv) : ls.size = nL := by
  obtain ⟨l9, h1, -⟩ := h
  exact h1.1
theorem hw_freeA {H : Heap} {locs : List Loc} {ws : va_W} (X : hw_X p m c cc nL s args Ts own g A) (h4 : va_D A ws) (h5 : va_S A s.heap H locs) : ∀ q, va_A ws H.size q → A q := by
  intro q h
  rcases h with ⟨i, e0, h⟩ | h
  · exact h4.2 i _ h
  · exact X.2.2.1 q (Nat.le_trans h5.1 h)
theorem hw_preS {H : Heap} {locs : List Loc} {ws : va_W} {as : List Value} (X : hw_X p m c cc nL s args Ts own g A) (h3 : va_P g.1 vwCl ws H) (h4 : va_D A ws) (h5 : va_S A s.heap H locs) : PreS s H (hw_Pc g as ws H.size) as :=
  ⟨hw_blind g as ws H.size, fun U hU hW => ⟨rfl, by rw [hU], by rw [hU]; exact h3, va_K.moved hW.alike X.2.1, h4.weaken (fun _ _ _ _ => trivial), by rw [hU]; exact hw_E_warm X.2.2.2 hW h5.2.1 (hw_freeA X h4 h5)⟩⟩
theorem hw_recv {H : Heap} {ws : va_W} {b : Nat} (X : hw_X p m c cc nL s args Ts own g A) (h2 : hw_rep ws w) (h3 : va_P g.1 vwCl ws H) (hb : ∃ (ci : Nat) (r : vw_C) (fs : List Value), w b = some (.inr (ci, fs)) ∧ vwCl[ci]? = some r ∧ r.1 = C) : ∃ cell : Cell, H[b]? = some cell ∧ cell.vm.isStatics = false ∧ s.vm.findClass C = some cell.cls := by
  obtain ⟨ci, r, fs, e1, e2, rfl⟩ := hb
  obtain ⟨q0, hq⟩ := List.getElem?_of_mem ((h2 _ _).mp e1)
  exact va_recv X.2.1 h3 e2 hq
theorem hw_callVi (X : hw_X p m c cc nL s args Ts own g A) {rm : Room} {b : Nat} {As : List Value} {post : Int32 → hw_H → Prop} (Y : hw_YV s args own index C y bytes maxL ret wc nargs) (M : hw_Mi l g y wc rm (.ref b :: As) w post) (hlen : As.length = nargs) (hfr : rm.frames + 1 ≤ R.frames ∧ 8 + (maxL + 11) + rm.locals ≤ R.locals) (hce : k + rm.cells ≤ R.cells ∧ n + rm.slots ≤ R.slots) (hb : ∃ (ci : Nat) (r : vw_C) (fs : List Value), w b = some (.inr (ci, fs)) ∧ vwCl[ci]? = some r ∧ r.1 = C) (hst : (st.map fun v => v.category).sum ≤ 8) (hs0 : st0 = As.reverse ++ .ref b :: st) (d : decode cc pc = .ok (.invokevirtual index, 3)) (kk : ∀ (x : Int32) (w9 : hw_H), post x w9 → hw_J p l e R s m args below meth c Q nL g A (k + rm.cells) (n + rm.slots) (pc + 3) lv (.int x :: st) w9) : hw_J p l e R s m args below meth c Q nL g A k n pc lv st0 w := by
  intro H locs ls ws h1 h2 h3 h4 h5
  have hfree := hw_freeA X h4 h5
  have hM := M ws H.size h2
  have hpre := hw_preS (as := .ref b :: As) X h3 h4 h5
  have hpv : PreV s H C b (hw_Pc g (.ref b :: As) ws H.size) As := ⟨hpre.1, hw_recv X h2 h3 hb, hpre.2⟩
  rcases Y R rm hfr.1 hfr.2 with cw | ⟨host, cw⟩
  · refine va_calli (va_runV X.1 hM cw hpv rfl hlen (hw_L_size h1) hs0 (lv_room hst) d hce) h5 (fun q _ h => hfree q h) hfree (fun r w9 t H1 locs1 ht hvm hp hB hz hk1 hS1 => ?_)
    obtain ⟨ws9, r1, r2, r3, r4⟩ := hB
    exact kk r w9 hp H1 locs1 ls ws9 h1 r1 (ht ▸ r2) (r4.weaken (fun _ _ _ h => hfree _ h)) hS1
  · refine va_calli (va_runVN X.1 hM cw hpv rfl hlen (hw_L_size h1) hs0 (lv_room hst) d hce) h5 (fun q _ h => hfree q h) hfree (fun r w9 t H1 locs1 ht hvm hp hB hz hk1 hS1 => ?_)
    obtain ⟨ws9, r1, r2, r3, r4⟩ := hB
    exact kk r w9 hp H1 locs1 ls ws9 h1 r1 (ht ▸ r2) (r4.weaken (fun _ _ _ h => hfree _ h)) hS1
theorem hw_callSi (X : hw_X p m c cc nL s args Ts own g A) {rm : Room} {As : List Value} {post : Int32 → hw_H → Prop} (Y : hw_YS s args own index y bytes maxL ret wc nargs) (M : hw_Mi l g y wc rm As w post) (hlen : As.length = nargs) (hfr : rm.frames + 1 ≤ R.frames ∧ 8 + (maxL + 11) + rm.locals ≤ R.locals) (hce : k + rm.cells ≤ R.cells ∧ n + rm.slots ≤ R.slots) (hst : (st.map fun v => v.category).sum ≤ 8) (hs0 : st0 = As.reverse ++ st) (d : decode cc pc = .ok (.invokestatic index, 3)) (kk : ∀ (x : Int32) (w9 : hw_H), post x w9 → hw_J p l e R s m args below meth c Q nL g A (k + rm.cells) (n + rm.slots) (pc + 3) lv (.int x :: st) w9) : hw_J p l e R s m args below meth c Q nL g A k n pc lv st0 w := by
  intro H locs ls ws h1 h2 h3 h4 h5
  have hfree := hw_freeA X h4 h5
  have hM := M ws H.size h2
  have hpre := hw_preS (as := As) X h3 h4 h5
  rcases Y R rm hfr.1 hfr.2 with cw | ⟨host, cw⟩
  · refine va_calli (va_runS X.1 hM cw hpre rfl hlen (hw_L_size h1) hs0 (lv_room hst) d hce) h5 (fun q _ h => hfree q h) hfree (fun r w9 t H1 locs1 ht hvm hp hB hz hk1 hS1 => ?_)
    obtain ⟨ws9, r1, r2, r3, r4⟩ := hB
    exact kk r w9 hp H1 locs1 ls ws9 h1 r1 (ht ▸ r2) (r4.weaken (fun _ _ _ h => hfree _ h)) hS1
  · refine va_calli (va_runSN X.1 hM cw hpre rfl hlen (hw_L_size h1) hs0 (lv_room hst) d hce) h5 (fun q _ h => hfree q h) hfree (fun r w9 t H1 locs1 ht hvm hp hB hz hk1 hS1 => ?_)
    obtain ⟨ws9, r1, r2, r3, r4⟩ := hB
    exact kk r w9 hp H1 locs1 ls ws9 h1 r1 (ht ▸ r2) (r4.weaken (fun _ _ _ h => hfree _ h)) hS1
theorem hw_callVv (X : hw_X p m c cc nL s args Ts own g A) {rm : Room} {b : Nat} {As : List Value} {post : hw_H → Prop} (Y : hw_YV s args own index C y bytes maxL ret wc nargs) (M : hw_Mv l g y wc rm (.ref b :: As) w post) (hlen : As.length = nargs) (hfr : rm.frames + 1 ≤ R.frames ∧ 8 + (maxL + 11) + rm.locals ≤ R.locals) (hce : k + rm.cells ≤ R.cells ∧ n + rm.slots ≤ R.slots) (hb : ∃ (ci : Nat) (r : vw_C) (fs : List Value), w b = some (.inr (ci, fs)) ∧ vwCl[ci]? = some r ∧ r.1 = C) (hst : (st.map fun v => v.category).sum ≤ 8) (hs0 : st0 = As.reverse ++ .ref b :: st) (d : decode cc pc = .ok (.invokevirtual index, 3)) (kk : ∀ (w9 : hw_H), post w9 → hw_J p l e R s m args below meth c Q nL g A (k + rm.cells) (n + rm.slots) (pc + 3) lv st w9) : hw_J p l e R s m args below meth c Q nL g A k n pc lv st0 w := by
  intro H locs ls ws h1 h2 h3 h4 h5
  have hfree := hw_freeA X h4 h5
  have hM := M ws H.size h2
  have hpre := hw_preS (as := .ref b :: As) X h3 h4 h5
  have hpv : PreV s H C b (hw_Pc g (.ref b :: As) ws H.size) As := ⟨hpre.1, hw_recv X h2 h3 hb, hpre.2⟩
  rcases Y R rm hfr.1 hfr.2 with cw | ⟨host, cw⟩
  · refine va_callv (va_runV X.1 hM cw hpv rfl hlen (hw_L_size h1) hs0 (lv_room hst) d hce) h5 (fun q _ h => hfree q h) hfree (fun w9 t H1 locs1 ht hvm hp hB hz hk1 hS1 => ?_)
    obtain ⟨ws9, r1, r2, r3, r4⟩ := hB
    exact kk w9 hp H1 locs1 ls ws9 h1 r1 (ht ▸ r2) (r4.weaken (fun _ _ _ h => hfree _ h)) hS1
  · refine va_callv (va_runVN X.1 hM cw hpv rfl hlen (hw_L_size h1) hs0 (lv_room hst) d hce) h5 (fun q _ h => hfree q h) hfree (fun w9 t H1 locs1 ht hvm hp hB hz hk1 hS1 => ?_)
    obtain ⟨ws9, r1, r2, r3, r4⟩ := hB
    exact kk w9 hp H1 locs1 ls ws9 h1 r1 (ht ▸ r2) (r4.weaken (fun _ _ _ h => hfree _ h)) hS1
theorem hw_callSv (X : hw_X p m c cc nL s args Ts own g A) {rm : Room} {As : List Value} {post : hw_H → Prop} (Y : hw_YS s args own index y bytes maxL ret wc nargs) (M : hw_Mv l g y wc rm As w post) (hlen : As.length = nargs) (hfr : rm.frames + 1 ≤ R.frames ∧ 8 + (maxL + 11) + rm.locals ≤ R.locals) (hce : k + rm.cells ≤ R.cells ∧ n + rm.slots ≤ R.slots) (hst : (st.map fun v => v.category).sum ≤ 8) (hs0 : st0 = As.reverse ++ st) (d : decode cc pc = .ok (.invokestatic index, 3)) (kk : ∀ (w9 : hw_H), post w9 → hw_J p l e R s m args below meth c Q nL g A (k + rm.cells) (n + rm.slots) (pc + 3) lv st w9) : hw_J p l e R s m args below meth c Q nL g A k n pc lv st0 w := by
  intro H locs ls ws h1 h2 h3 h4 h5
  have hfree := hw_freeA X h4 h5
  have hM := M ws H.size h2
  have hpre := hw_preS (as := As) X h3 h4 h5
  rcases Y R rm hfr.1 hfr.2 with cw | ⟨host, cw⟩
  · refine va_callv (va_runS X.1 hM cw hpre rfl hlen (hw_L_size h1) hs0 (lv_room hst) d hce) h5 (fun q _ h => hfree q h) hfree (fun w9 t H1 locs1 ht hvm hp hB hz hk1 hS1 => ?_)
    obtain ⟨ws9, r1, r2, r3, r4⟩ := hB
    exact kk w9 hp H1 locs1 ls ws9 h1 r1 (ht ▸ r2) (r4.weaken (fun _ _ _ h => hfree _ h)) hS1
  · refine va_callv (va_runSN X.1 hM cw hpre rfl hlen (hw_L_size h1) hs0 (lv_room hst) d hce) h5 (fun q _ h => hfree q h) hfree (fun w9 t H1 locs1 ht hvm hp hB hz hk1 hS1 => ?_)
    obtain ⟨ws9, r1, r2, r3, r4⟩ := hB
    exact kk w9 hp H1 locs1 ls ws9 h1 r1 (ht ▸ r2) (r4.weaken (fun _ _ _ h => hfree _ h)) hS1
theorem hw_callIv (X : hw_X p m c cc nL s args Ts own g A) {rm : Room} {b : Nat} {As : List Value} {post : hw_H → Prop} (Y : hw_YI s args own index y bytes maxL wc nargs) (M : hw_Mv l g y wc rm (.ref b :: As) w post) (hlen : As.length = nargs) (hfr : rm.frames + 1 ≤ R.frames ∧ 8 + (maxL + 11) + rm.locals ≤ R.locals) (hce : k + rm.cells ≤ R.cells ∧ n + rm.slots ≤ R.slots) (hst : (st.map fun v => v.category).sum ≤ 8) (hs0 : st0 = As.reverse ++ .ref b :: st) (d : decode cc pc = .ok (.invokespecial index, 3)) (kk : ∀ (w9 : hw_H), post w9 → hw_J p l e R s m args below meth c Q nL g A (k + rm.cells) (n + rm.slots) (pc + 3) lv st w9) : hw_J p l e R s m args below meth c Q nL g A k n pc lv st0 w := by
  intro H locs ls ws h1 h2 h3 h4 h5
  have hfree := hw_freeA X h4 h5
  have hM := M ws H.size h2
  have hpre := hw_preS (as := .ref b :: As) X h3 h4 h5
  rcases Y R rm hfr.1 hfr.2 with cw | ⟨host, cw⟩
  · refine va_callv (va_runI X.1 hM cw hpre rfl hlen (hw_L_size h1) hs0 (lv_room hst) d hce) h5 (fun q _ h => hfree q h) hfree (fun w9 t H1 locs1 ht hvm hp hB hz hk1 hS1 => ?_)
    obtain ⟨ws9, r1, r2, r3, r4⟩ := hB
    exact kk w9 hp H1 locs1 ls ws9 h1 r1 (ht ▸ r2) (r4.weaken (fun _ _ _ h => hfree _ h)) hS1
  · refine va_callv (va_runIN X.1 hM cw hpre rfl hlen (hw_L_size h1) hs0 (lv_room hst) d hce) h5 (fun q _ h => hfree q h) hfree (fun w9 t H1 locs1 ht hvm hp hB hz hk1 hS1 => ?_)
    obtain ⟨ws9, r1, r2, r3, r4⟩ := hB
    exact kk w9 hp H1 locs1 ls ws9 h1 r1 (ht ▸ r2) (r4.weaken (fun _ _ _ h => hfree _ h)) hS1
theorem hw_callVq (X : hw_X p m c cc nL s args Ts own g A) {rm : Room} {b : Nat} {As : List Value} {post : Option Nat → hw_H → Prop} (Y : hw_YV s args own index C y bytes maxL ret wc nargs) (M : hw_Mq l g y wc rm (.ref b :: As) w post) (hlen : As.length = nargs) (hfr : rm.frames + 1 ≤ R.frames ∧ 8 + (maxL + 11) + rm.locals ≤ R.locals) (hce : k + rm.cells ≤ R.cells ∧ n + rm.slots ≤ R.slots) (hb : ∃ (ci : Nat) (r : vw_C) (fs : List Value), w b = some (.inr (ci, fs)) ∧ vwCl[ci]? = some r ∧ r.1 = C) (hst : (st.map fun v => v.category).sum ≤ 8) (hs0 : st0 = As.reverse ++ .ref b :: st) (d : decode cc pc = .ok (.invokevirtual index, 3)) (kk : ∀ (o : Option Nat) (w9 : hw_H), post o w9 → hw_J p l e R s m args below meth c Q nL g A (k + rm.cells) (n + rm.slots) (pc + 3) lv (va_rf o :: st) w9) : hw_J p l e R s m args below meth c Q nL g A k n pc lv st0 w := by
  intro H locs ls ws h1 h2 h3 h4 h5
  have hfree := hw_freeA X h4 h5
  have hM := M ws H.size h2
  have hpre := hw_preS (as := .ref b :: As) X h3 h4 h5
  have hpv : PreV s H C b (hw_Pc g (.ref b :: As) ws H.size) As := ⟨hpre.1, hw_recv X h2 h3 hb, hpre.2⟩
  rcases Y R rm hfr.1 hfr.2 with cw | ⟨host, cw⟩
  · refine va_callq (va_runV X.1 hM cw hpv rfl hlen (hw_L_size h1) hs0 (lv_room hst) d hce) h5 (fun q _ h => hfree q h) hfree (fun r w9 t H1 locs1 ht hvm hp hB hz hk1 hS1 => ?_)
    obtain ⟨ws9, r1, r2, r3, r4⟩ := hB
    exact kk r w9 hp H1 locs1 ls ws9 h1 r1 (ht ▸ r2) (r4.weaken (fun _ _ _ h => hfree _ h)) hS1
  · refine va_callq (va_runVN X.1 hM cw hpv rfl hlen (hw_L_size h1) hs0 (lv_room hst) d hce) h5 (fun q _ h => hfree q h) hfree (fun r w9 t H1 locs1 ht hvm hp hB hz hk1 hS1 => ?_)
    obtain ⟨ws9, r1, r2, r3, r4⟩ := hB
    exact kk r w9 hp H1 locs1 ls ws9 h1 r1 (ht ▸ r2) (r4.weaken (fun _ _ _ h => hfree _ h)) hS1
theorem hw_callSq (X : hw_X p m c cc nL s args Ts own g A) {rm : Room} {As : List Value} {post : Option Nat → hw_H → Prop} (Y : hw_YS s args own index y bytes maxL ret wc nargs) (M : hw_Mq l g y wc rm As w post) (hlen : As.length = nargs) (hfr : rm.frames + 1 ≤ R.frames ∧ 8 + (maxL + 11) + rm.locals ≤ R.locals) (hce : k + rm.cells ≤ R.cells ∧ n + rm.slots ≤ R.slots) (hst : (st.map fun v => v.category).sum ≤ 8) (hs0 : st0 = As.reverse ++ st) (d : decode cc pc = .ok (.invokestatic index, 3)) (kk : ∀ (o : Option Nat) (w9 : hw_H), post o w9 → hw_J p l e R s m args below meth c Q nL g A (k + rm.cells) (n + rm.slots) (pc + 3) lv (va_rf o :: st) w9) : hw_J p l e R s m args below meth c Q nL g A k n pc lv st0 w := by
  intro H locs ls ws h1 h2 h3 h4 h5
  have hfree := hw_freeA X h4 h5
  have hM := M ws H.size h2
  have hpre := hw_preS (as := As) X h3 h4 h5
  rcases Y R rm hfr.1 hfr.2 with cw | ⟨host, cw⟩
  · refine va_callq (va_runS X.1 hM cw hpre rfl hlen (hw_L_size h1) hs0 (lv_room hst) d hce) h5 (fun q _ h => hfree q h) hfree (fun r w9 t H1 locs1 ht hvm hp hB hz hk1 hS1 => ?_)
    obtain ⟨ws9, r1, r2, r3, r4⟩ := hB
    exact kk r w9 hp H1 locs1 ls ws9 h1 r1 (ht ▸ r2) (r4.weaken (fun _ _ _ h => hfree _ h)) hS1
  · refine va_callq (va_runSN X.1 hM cw hpre rfl hlen (hw_L_size h1) hs0 (lv_room hst) d hce) h5 (fun q _ h => hfree q h) hfree (fun r w9 t H1 locs1 ht hvm hp hB hz hk1 hS1 => ?_)
    obtain ⟨ws9, r1, r2, r3, r4⟩ := hB
    exact kk r w9 hp H1 locs1 ls ws9 h1 r1 (ht ▸ r2) (r4.weaken (fun _ _ _ h => hfree _ h)) hS1
theorem hw_objInit (X : hw_X p m c cc nL s args Ts own g A) {a idx : Nat} (hl : (Cond.methodLink own idx Lib.objectInit).before args s = true) (hi : (Cond.instanceMethod Lib.objectInit).before args s = true) (hc : (Cond.code Lib.objectInit ⟨#[0xb1]⟩ 1 none).before args s = true) (hf : 1 ≤ R.frames) (hlo : 20 ≤ R.locals) (hst : (st.map fun v => v.category).sum ≤ 8) (d : decode cc pc = .ok (.invokespecial idx, 3)) (kk : hw_J p l e R s m args below meth c Q nL g A k n (pc + 3) lv st w) : hw_J p l e R s m args below meth c Q nL g A k n pc lv (.ref a :: st) w := by
  intro H locs ls ws h1 h2 h3 h4 h5
  have h9 := lv_room (m := m) (pc := pc) (ls := ls) (rest := .ref a :: st) hst
  exact W.objInit X.1.1 X.1.2.1 X.1.2.2.2.1 hl hi hc rfl (by rw [X.1.2.2.1]; exact hw_L_size h1) rfl d hf (by omega) (kk H locs ls ws h1 h2 h3 h4 h5)
/-- leaving -/
theorem hw_reti (X : hw_X p m c cc nL s args Ts own g A) {mc ms : Nat} {post : Int32 → hw_H → Prop} {x : Int32} (hr : meth.sig.returnType = some .int) (hlk : meth.locks = false) (hk : k ≤ mc ∧ n ≤ ms) (hp : post x w) (d : decode cc pc = .ok (.ireturn, 1)) : hw_J p l e R s m args below meth c (MQ below (va_Qi post (hw_B g A) A) args s mc ms A) nL g A k n pc lv [.int x] w := by
  intro H locs ls ws h1 h2 h3 h4 h5
  refine W.widen hk.1 hk.2 ?_
  exact W.iret X.1.1 X.1.2.1 hr (fun t ht hW => ⟨⟨x, w, rfl, hp, ws, h2, by rw [ht]; exact h3, va_K.moved hW.alike X.2.1, h4⟩, h5.F ht⟩) h5.2.2 d hlk
theorem hw_retz (X : hw_X p m c cc nL s args Ts own g A) {mc ms : Nat} {post : Int32 → hw_H → Prop} {x : Int32} {ty : FieldType} (hr : meth.sig.returnType = some ty) (hx : narrow ty (.int x) = .int x) (hlk : meth.locks = false) (hk : k ≤ mc ∧ n ≤ ms) (hp : post x w) (d : decode cc pc = .ok (.ireturn, 1)) : hw_J p l e R s m args below meth c (MQ below (va_Qi post (hw_B g A) A) args s mc ms A) nL g A k n pc lv [.int x] w := by
  intro H locs ls ws h1 h2 h3 h4 h5
  refine W.widen hk.1 hk.2 ?_
  exact W.zret X.1.1 X.1.2.1 hr hx (fun t ht hW => ⟨⟨x, w, rfl, hp, ws, h2, by rw [ht]; exact h3, va_K.moved hW.alike X.2.1, h4⟩, h5.F ht⟩) h5.2.2 d hlk
theorem hw_retv (X : hw_X p m c cc nL s args Ts own g A) {mc ms : Nat} {post : hw_H → Prop} (hr : meth.sig.returnType = none) (hlk : meth.locks = false) (hk : k ≤ mc ∧ n ≤ ms) (hp : post w) (d : decode cc pc = .ok (.return_, 1)) : hw_J p l e R s m args below meth c (MQ below (va_Qv post (hw_B g A) A) args s mc ms A) nL g A k n pc lv [] w := by
  intro H locs ls ws h1 h2 h3 h4 h5
  refine W.widen hk.1 hk.2 ?_
  exact W.vret X.1.1 X.1.2.1 hr (fun t ht hW => ⟨⟨w, rfl, hp, ws, h2, by rw [ht]; exact h3, va_K.moved hW.alike X.2.1, h4⟩, h5.F ht⟩) h5.2.2 d hlk
theorem hw_retq (X : hw_X p m c cc nL s args Ts own g A) {mc ms : Nat} {post : Option Nat → hw_H → Prop} {o : Option Nat} {rt : String} (hr : meth.sig.returnType = some (.object rt)) (hlk : meth.locks = false) (hk : k ≤ mc ∧ n ≤ ms) (hp : post o w) (d : decode cc pc = .ok (.areturn, 1)) : hw_J p l e R s m args below meth c (MQ below (va_Qq post (hw_B g A) A) args s mc ms A) nL g A k n pc lv [va_rf o] w := by
  intro H locs ls ws h1 h2 h3 h4 h5
  refine W.widen hk.1 hk.2 ?_
  exact W.aret X.1.1 X.1.2.1 hr (Or.inl ⟨_, rfl⟩) (va_rf_or o) (fun t ht hW => ⟨⟨o, w, rfl, hp, ws, h2, by rw [ht]; exact h3, va_K.moved hW.alike X.2.1, h4⟩, h5.F ht⟩) h5.2.2 d hlk
theorem hw_L_entry {as : List Value} (hcat : ∀ v ∈ as, v.category = 1) {ls : Array Slot} (hl : lv_has ls maxL (lv_args 0 as)) {r : Nat} : hw_L ls maxL (as.map some ++ List.replicate r none) := by
  refine ⟨_, hl, fun i v h => ?_⟩
  by_cases hi : i < as.length
  · rw [List.getElem?_append_left (by simpa using hi), List.getElem?_map] at h
    cases ha : as[i]? with
    | none => rw [ha] at h; cases h
    | some u =>
      rw [ha] at h
      have hu : u = v := by simpa using h
      subst hu
      have h2 := hw_args_mem as 0 hcat i u ha
      rw [Nat.zero_add] at h2
      exact ⟨h2, hcat u (List.mem_of_getElem? ha)⟩
  · rw [List.getElem?_append_right (by simpa using hi), List.getElem?_replicate] at h
    split at h <;> cases h
/-- leaving, as the segments ask it -/
theorem hw_rti (X : hw_X p m c cc nL s args Ts own g A) (hr : meth.sig.returnType = some .int) (hlk : meth.locks = false) {mc ms : Nat} {post : Int32 → hw_H → Prop} : ∀ {k n pc : Nat} {lv : List (Option Value)} {x : Int32} {w : hw_H}, decode cc pc = .ok (.ireturn, 1) → ((k ≤ mc ∧ n ≤ ms) ∧ post x w) → hw_J p l e R s m args below meth c (MQ below (va_Qi post (hw_B g A) A) args s mc ms A) nL g A k n pc lv [.int x] w := fun d h => hw_reti X hr hlk h.1 h.2 d
theorem hw_rtz (X : hw_X p m c cc nL s args Ts own g A) (hr : meth.sig.returnType = some .boolean) (hlk : meth.locks = false) {mc ms : Nat} {post : Int32 → hw_H → Prop} : ∀ {k n pc : Nat} {lv : List (Option Value)} {x : Int32} {w : hw_H}, decode cc pc = .ok (.ireturn, 1) → ((k ≤ mc ∧ n ≤ ms) ∧ hw_b x ∧ post x w) → hw_J p l e R s m args below meth c (MQ below (va_Qi post (hw_B g A) A) args s mc ms A) nL g A k n pc lv [.int x] w := fun d h => hw_retz X hr (hw_b_nar h.2.1) hlk h.1 h.2.2 d
theorem hw_rtv (X : hw_X p m c cc nL s args Ts own g A) (hr : meth.sig.returnType = none) (hlk : meth.locks = false) {mc ms : Nat} {post : hw_H → Prop} : ∀ {k n pc : Nat} {lv : List (Option Value)} {w : hw_H}, decode cc pc = .ok (.return_, 1) → ((k ≤ mc ∧ n ≤ ms) ∧ post w) → hw_J p l e R s m args below meth c (MQ below (va_Qv post (hw_B g A) A) args s mc ms A) nL g A k n pc lv [] w := fun d h => hw_retv X hr hlk h.1 h.2 d
theorem hw_rtq (X : hw_X p m c cc nL s args Ts own g A) {rt : String} (hr : meth.sig.returnType = some (.object rt)) (hlk : meth.locks = false) {mc ms : Nat} {post : Option Nat → hw_H → Prop} : ∀ {k n pc : Nat} {lv : List (Option Value)} {o : Option Nat} {w : hw_H}, decode cc pc = .ok (.areturn, 1) → ((k ≤ mc ∧ n ≤ ms) ∧ post o w) → hw_J p l e R s m args below meth c (MQ below (va_Qq post (hw_B g A) A) args s mc ms A) nL g A k n pc lv [va_rf o] w := fun d h => hw_retq X hr hlk h.1 h.2 d
theorem hw_enteri {ws' : List Cond} {rm : Room} {as : List Value} {post : Int32 → hw_H → Prop} {r : Nat} (hy : plainName y.cls = true) (hw : wc = .code y bytes maxL ret :: ws') (hcat : ∀ v ∈ as, v.category = 1) (hlen : (lg_sl as).length ≤ maxL)
    (body : ∀ (p : Program) (e : Env) (s : State) (m : MethodId) (args : Array Value) (below : List Frame) (meth : Method) (c : Code) (A : Nat → Prop), hw_X p m c bytes maxL s args wc y.cls g A → meth.sig.returnType = ret → meth.locks = false → meth.name = y.name → hw_J p l e rm s m args below meth c (MQ below (va_Qi post (hw_B g A) A) args s rm.cells rm.slots A) maxL g A 0 0 0 (as.map some ++ List.replicate r none) [] w) : hw_Mi l g y wc rm as w post := by
  intro ws sz hrep
  refine Met.ofW (cc := bytes) (maxL := maxL) (ret := ret) hy hw ?_
  intro p e s m args below meth c s₁ B hml hv
  obtain ⟨rfl, hsz, hP, hK, hD0, hE⟩ := hv
  subst hsz
  have hts := atoms_spec (ws := wc) B.pre
  have hD := hD0.self (sz := s.heap.size)
  have hA : ∀ q : Nat, s.heap.size ≤ q → va_A ws s.heap.size q := fun q h => Or.inr h
  have X : hw_X p m c bytes maxL s as.toArray wc y.cls g (va_A ws s.heap.size) := ⟨⟨B.exec, B.bytes, hml, findClass_of_methodNamed B.named, hts⟩, hK, hA, hE⟩
  have hl := lv_entry as (n := maxL) hlen
  rw [lg_entry_eq]
  exact body p e s m _ below meth c _ X B.returns B.notSynchronized (name_of_methodNamed B.named B.method).1 s.heap [] _ ws (hw_L_entry hcat hl) hrep hP hD va_S.rf
theorem hw_enterv {ws' : List Cond} {rm : Room} {as : List Value} {post : hw_H → Prop} {r : Nat} (hy : plainName y.cls = true) (hw : wc = .code y bytes maxL ret :: ws') (hcat : ∀ v ∈ as, v.category = 1) (hlen : (lg_sl as).length ≤ maxL)
    (body : ∀ (p : Program) (e : Env) (s : State) (m : MethodId) (args : Array Value) (below : List Frame) (meth : Method) (c : Code) (A : Nat → Prop), hw_X p m c bytes maxL s args wc y.cls g A → meth.sig.returnType = ret → meth.locks = false → meth.name = y.name → hw_J p l e rm s m args below meth c (MQ below (va_Qv post (hw_B g A) A) args s rm.cells rm.slots A) maxL g A 0 0 0 (as.map some ++ List.replicate r none) [] w) : hw_Mv l g y wc rm as w post := by
  intro ws sz hrep
  refine Met.ofW (cc := bytes) (maxL := maxL) (ret := ret) hy hw ?_
  intro p e s m args below meth c s₁ B hml hv
  obtain ⟨rfl, hsz, hP, hK, hD0, hE⟩ := hv
  subst hsz
  have hts := atoms_spec (ws := wc) B.pre
  have hD := hD0.self (sz := s.heap.size)
  have hA : ∀ q : Nat, s.heap.size ≤ q → va_A ws s.heap.size q := fun q h => Or.inr h
  have X : hw_X p m c bytes maxL s as.toArray wc y.cls g (va_A ws s.heap.size) := ⟨⟨B.exec, B.bytes, hml, findClass_of_methodNamed B.named, hts⟩, hK, hA, hE⟩
  have hl := lv_entry as (n := maxL) hlen
  rw [lg_entry_eq]
  exact body p e s m _ below meth c _ X B.returns B.notSynchronized (name_of_methodNamed B.named B.method).1 s.heap [] _ ws (hw_L_entry hcat hl) hrep hP hD va_S.rf
theorem hw_enterq {ws' : List Cond} {rm : Room} {as : List Value} {post : Option Nat → hw_H → Prop} {r : Nat} (hy : plainName y.cls = true) (hw : wc = .code y bytes maxL ret :: ws') (hcat : ∀ v ∈ as, v.category = 1) (hlen : (lg_sl as).length ≤ maxL)
    (body : ∀ (p : Program) (e : Env) (s : State) (m : MethodId) (args : Array Value) (below : List Frame) (meth : Method) (c : Code) (A : Nat → Prop), hw_X p m c bytes maxL s args wc y.cls g A → meth.sig.returnType = ret → meth.locks = false → meth.name = y.name → hw_J p l e rm s m args below meth c (MQ below (va_Qq post (hw_B g A) A) args s rm.cells rm.slots A) maxL g A 0 0 0 (as.map some ++ List.replicate r none) [] w) : hw_Mq l g y wc rm as w post := by
  intro ws sz hrep
  refine Met.ofW (cc := bytes) (maxL := maxL) (ret := ret) hy hw ?_
  intro p e s m args below meth c s₁ B hml hv
  obtain ⟨rfl, hsz, hP, hK, hD0, hE⟩ := hv
  subst hsz
  have hts := atoms_spec (ws := wc) B.pre
  have hD := hD0.self (sz := s.heap.size)
  have hA : ∀ q : Nat, s.heap.size ≤ q → va_A ws s.heap.size q := fun q h => Or.inr h
  have X : hw_X p m c bytes maxL s as.toArray wc y.cls g (va_A ws s.heap.size) := ⟨⟨B.exec, B.bytes, hml, findClass_of_methodNamed B.named, hts⟩, hK, hA, hE⟩
  have hl := lv_entry as (n := maxL) hlen
  rw [lg_entry_eq]
  exact body p e s m _ below meth c _ X B.returns B.notSynchronized (name_of_methodNamed B.named B.method).1 s.heap [] _ ws (hw_L_entry hcat hl) hrep hP hD va_S.rf
/-- what a call asks of the heap, and what comes behind it -/
def hw_ci (l : Launch) (g : hw_G) (R : Room) (k n : Nat) (y : MethodName) (wc : List Cond) (maxL : Nat) (as : List Value) (w : hw_H) (KK : Nat → Nat → Int32 → hw_H → Prop) : Prop := ∃ (rm : Room) (post : Int32 → hw_H → Prop), hw_Mi l g y wc rm as w post ∧ (rm.frames + 1 ≤ R.frames ∧ 8 + (maxL + 11) + rm.locals ≤ R.locals) ∧ (k + rm.cells ≤ R.cells ∧ n + rm.slots ≤ R.slots) ∧ ∀ (x : Int32) (w9 : hw_H), post x w9 → KK (k + rm.cells) (n + rm.slots) x w9
def hw_cv (l : Launch) (g : hw_G) (R : Room) (k n : Nat) (y : MethodName) (wc : List Cond) (maxL : Nat) (as : List Value) (w : hw_H) (KK : Nat → Nat → hw_H → Prop) : Prop := ∃ (rm : Room) (post : hw_H → Prop), hw_Mv l g y wc rm as w post ∧ (rm.frames + 1 ≤ R.frames ∧ 8 + (maxL + 11) + rm.locals ≤ R.locals) ∧ (k + rm.cells ≤ R.cells ∧ n + rm.slots ≤ R.slots) ∧ ∀ (w9 : hw_H), post w9 → KK (k + rm.cells) (n + rm.slots) w9
def hw_cq (l : Launch) (g : hw_G) (R : Room) (k n : Nat) (y : MethodName) (wc : List Cond) (maxL : Nat) (as : List Value) (w : hw_H) (KK : Nat → Nat → Option Nat → hw_H → Prop) : Prop := ∃ (rm : Room) (post : Option Nat → hw_H → Prop), hw_Mq l g y wc rm as w post ∧ (rm.frames + 1 ≤ R.frames ∧ 8 + (maxL + 11) + rm.locals ≤ R.locals) ∧ (k + rm.cells ≤ R.cells ∧ n + rm.slots ≤ R.slots) ∧ ∀ (o : Option Nat) (w9 : hw_H), post o w9 → KK (k + rm.cells) (n + rm.slots) o w9
def hw_o (w : hw_H) (b : Nat) (C : String) : Prop := ∃ (ci : Nat) (r : vw_C) (fs : List Value), w b = some (.inr (ci, fs)) ∧ vwCl[ci]? = some r ∧ r.1 = C
def hw_sub : List (Option Value) → List (Option Value) → Prop
  | [], _ => True
  | none :: t, _ :: t' => True ∧ hw_sub t t'
  | some v :: t, some u :: t' => v = u ∧ hw_sub t t'
  | _, _ => False
theorem hw_sub_at : ∀ (a b : List (Option Value)), hw_sub a b → ∀ (i : Nat) (v : Value), a[i]? = some (some v) → b[i]? = some (some v) := by
  intro a
  induction a with
  | nil => intro b _ i v h; simp at h
  | cons x t ih =>
    intro b hb i v h
    cases b with
    | nil => cases x <;> exact hb.elim
    | cons z t2 =>
      cases x with
      | none =>
        cases i with
        | zero => simp at h
        | succ i =>
          rw [List.getElem?_cons_succ] at h ⊢
          exact ih t2 hb.2 i v h
      | some u =>
        cases z with
        | none => exact hb.elim
        | some u2 =>
          obtain ⟨h0, h1⟩ := hb
          cases i with
          | zero =>
            rw [List.getElem?_cons_zero] at h ⊢
            rw [← h0]
            exact h
          | succ i =>
            rw [List.getElem?_cons_succ] at h ⊢
            exact ih t2 h1 i v h
theorem hw_drop {lv9 : List (Option Value)} (hs : hw_sub lv9 lv) (kk : hw_J p l e R s m args below meth c Q nL g A k n pc lv9 st w) : hw_J p l e R s m args below meth c Q nL g A k n pc lv st w := by
  intro H locs ls ws h1 h2 h3 h4 h5
  obtain ⟨l9, g1, g2⟩ := h1
  exact kk H locs ls ws ⟨l9, g1, fun i v h => g2 i v (hw_sub_at _ _ hs i v h)⟩ h2 h3 h4 h5
theorem hw_oi1 (h : 1 ≤ R.frames ∧ 20 ≤ R.locals) : 1 ≤ R.frames := h.1
theorem hw_oi2 (h : 1 ≤ R.frames ∧ 20 ≤ R.locals) : 20 ≤ R.locals := h.2
theorem hw_rf_nar (C : String) (o : Option Nat) : narrow (.object C) (va_rf o) = va_rf o := by cases o <;> rfl
theorem hw_rf_fit (C : String) (o : Option Nat) : fits (.object C) (va_rf o) = true := by cases o <;> rfl
end HC
/-- a call of a method that makes nothing -/
theorem hw_ci_0 {d d' mc ms maxL k n : Nat} {l : Launch} {g : hw_G} {y : MethodName} {wc : List Cond} {as : List Value} {w : hw_H} {post : Int32 → hw_H → Prop} {KK : Nat → Nat → Int32 → hw_H → Prop} (hd : d' < d) (hL : maxL ≤ 21) (hM : hw_Mi l g y wc (hw_R d' 0 0) as w post) (hk : k ≤ mc) (hn : n ≤ ms) (kk : ∀ (x : Int32) (w9 : hw_H), post x w9 → KK k n x w9) : hw_ci l g (hw_R d mc ms) k n y wc maxL as w KK := ⟨hw_R d' 0 0, post, hM, hw_R_ok hd hL, ⟨hk, hn⟩, kk⟩
theorem hw_cv_0 {d d' mc ms maxL k n : Nat} {l : Launch} {g : hw_G} {y : MethodName} {wc : List Cond} {as : List Value} {w : hw_H} {post : hw_H → Prop} {KK : Nat → Nat → hw_H → Prop} (hd : d' < d) (hL : maxL ≤ 21) (hM : hw_Mv l g y wc (hw_R d' 0 0) as w post) (hk : k ≤ mc) (hn : n ≤ ms) (kk : ∀ (w9 : hw_H), post w9 → KK k n w9) : hw_cv l g (hw_R d mc ms) k n y wc maxL as w KK := ⟨hw_R d' 0 0, post, hM, hw_R_ok hd hL, ⟨hk, hn⟩, kk⟩
theorem hw_cq_0 {d d' mc ms maxL k n : Nat} {l : Launch} {g : hw_G} {y : MethodName} {wc : List Cond} {as : List Value} {w : hw_H} {post : Option Nat → hw_H → Prop} {KK : Nat → Nat → Option Nat → hw_H → Prop} (hd : d' < d) (hL : maxL ≤ 21) (hM : hw_Mq l g y wc (hw_R d' 0 0) as w post) (hk : k ≤ mc) (hn : n ≤ ms) (kk : ∀ (o : Option Nat) (w9 : hw_H), post o w9 → KK k n o w9) : hw_cq l g (hw_R d mc ms) k n y wc maxL as w KK := ⟨hw_R d' 0 0, post, hM, hw_R_ok hd hL, ⟨hk, hn⟩, kk⟩
/-- a call of a method that makes cells -/
theorem hw_ci_n {d d' mc ms mc' ms' maxL k n : Nat} {l : Launch} {g : hw_G} {y : MethodName} {wc : List Cond} {as : List Value} {w : hw_H} {post : Int32 → hw_H → Prop} {KK : Nat → Nat → Int32 → hw_H → Prop} (hd : d' < d) (hL : maxL ≤ 21) (hM : hw_Mi l g y wc (hw_R d' mc' ms') as w post) (hk : k + mc' ≤ mc) (hn : n + ms' ≤ ms) (kk : ∀ (x : Int32) (w9 : hw_H), post x w9 → KK (k + mc') (n + ms') x w9) : hw_ci l g (hw_R d mc ms) k n y wc maxL as w KK := ⟨hw_R d' mc' ms', post, hM, hw_R_ok hd hL, ⟨hk, hn⟩, kk⟩
theorem hw_cv_n {d d' mc ms mc' ms' maxL k n : Nat} {l : Launch} {g : hw_G} {y : MethodName} {wc : List Cond} {as : List Value} {w : hw_H} {post : hw_H → Prop} {KK : Nat → Nat → hw_H → Prop} (hd : d' < d) (hL : maxL ≤ 21) (hM : hw_Mv l g y wc (hw_R d' mc' ms') as w post) (hk : k + mc' ≤ mc) (hn : n + ms' ≤ ms) (kk : ∀ (w9 : hw_H), post w9 → KK (k + mc') (n + ms') w9) : hw_cv l g (hw_R d mc ms) k n y wc maxL as w KK := ⟨hw_R d' mc' ms', post, hM, hw_R_ok hd hL, ⟨hk, hn⟩, kk⟩
theorem hw_cq_n {d d' mc ms mc' ms' maxL k n : Nat} {l : Launch} {g : hw_G} {y : MethodName} {wc : List Cond} {as : List Value} {w : hw_H} {post : Option Nat → hw_H → Prop} {KK : Nat → Nat → Option Nat → hw_H → Prop} (hd : d' < d) (hL : maxL ≤ 21) (hM : hw_Mq l g y wc (hw_R d' mc' ms') as w post) (hk : k + mc' ≤ mc) (hn : n + ms' ≤ ms) (kk : ∀ (o : Option Nat) (w9 : hw_H), post o w9 → KK (k + mc') (n + ms') o w9) : hw_cq l g (hw_R d mc ms) k n y wc maxL as w KK := ⟨hw_R d' mc' ms', post, hM, hw_R_ok hd hL, ⟨hk, hn⟩, kk⟩
abbrev hw_Ji (p : Program) (l : Launch) (e : Env) (R : Room) (s : State) (m : MethodId) (args : Array Value) (below : List Frame) (meth : Method) (c : Code) (nL : Nat) (g : hw_G) (A : Nat → Prop) (post : Int32 → hw_H → Prop) : Nat → Nat → Nat → List (Option Value) → List Value → hw_H → Prop := hw_J p l e R s m args below meth c (MQ below (va_Qi post (hw_B g A) A) args s R.cells R.slots A) nL g A
abbrev hw_Jv (p : Program) (l : Launch) (e : Env) (R : Room) (s : State) (m : MethodId) (args : Array Value) (below : List Frame) (meth : Method) (c : Code) (nL : Nat) (g : hw_G) (A : Nat → Prop) (post : hw_H → Prop) : Nat → Nat → Nat → List (Option Value) → List Value → hw_H → Prop := hw_J p l e R s m args below meth c (MQ below (va_Qv post (hw_B g A) A) args s R.cells R.slots A) nL g A
abbrev hw_Jq (p : Program) (l : Launch) (e : Env) (R : Room) (s : State) (m : MethodId) (args : Array Value) (below : List Frame) (meth : Method) (c : Code) (nL : Nat) (g : hw_G) (A : Nat → Prop) (post : Option Nat → hw_H → Prop) : Nat → Nat → Nat → List (Option Value) → List Value → hw_H → Prop := hw_J p l e R s m args below meth c (MQ below (va_Qq post (hw_B g A) A) args s R.cells R.slots A) nL g A
theorem hw_o_of {w : hw_H} {b ci : Nat} {C : String} {r : vw_C} {fs : List Value} (h : w b = some (.inr (ci, fs))) (hc : vwCl[ci]? = some r) (hr : r.1 = C) : hw_o w b C := ⟨ci, r, fs, h, hc, hr⟩
end
section
theorem tw_0 : Cond.selects "ProofCourt" ym_Co_take ym_Co_take ∈ hw_all := hw_in (i := 0) (by decide +kernel) (by decide +kernel)
theorem tw_48 : Cond.initialized "ProofCourt" ∈ hw_all := hw_in (i := 48) (by decide +kernel) (by decide +kernel)
theorem tw_49 : Cond.initialized "ProofCourt$Text" ∈ hw_all := hw_in (i := 49) (by decide +kernel) (by decide +kernel)
theorem tw_50 : Cond.initialized "ProofCourt$Proof" ∈ hw_all := hw_in (i := 50) (by decide +kernel) (by decide +kernel)
theorem tw_51 : Cond.initialized "ProofCourt$Search" ∈ hw_all := hw_in (i := 51) (by decide +kernel) (by decide +kernel)
theorem tw_52 : Cond.initialized "ProofCourt$Formula" ∈ hw_all := hw_in (i := 52) (by decide +kernel) (by decide +kernel)
theorem tw_59 : Cond.initialized "java/lang/Integer" ∈ hw_all := hw_in (i := 59) (by decide +kernel) (by decide +kernel)
theorem tw_67 : Cond.methodLink "ProofCourt" 3 Lib.objectInit ∈ hw_all := hw_in (i := 67) (by decide +kernel) (by decide +kernel)
theorem tw_68 : Cond.instanceMethod Lib.objectInit ∈ hw_all := hw_in (i := 68) (by decide +kernel) (by decide +kernel)
theorem tw_69 : Cond.code Lib.objectInit ⟨#[0xb1]⟩ 1 none ∈ hw_all := hw_in (i := 69) (by decide +kernel) (by decide +kernel)
theorem tw_70 : Cond.classLink "ProofCourt" 9 "ProofCourt$Text" ∈ hw_all := hw_in (i := 70) (by decide +kernel) (by decide +kernel)
theorem tw_71 : Cond.instantiable "ProofCourt$Text" 6 ∈ hw_all := hw_in (i := 71) (by decide +kernel) (by decide +kernel)
theorem tw_73 : Cond.instanceMethod ym_Te_init ∈ hw_all := hw_in (i := 73) (by decide +kernel) (by decide +kernel)
theorem tw_74 : Cond.code ym_Te_init cb_Te_init 1 none ∈ hw_all := hw_in (i := 74) (by decide +kernel) (by decide +kernel)
theorem tw_75 : Cond.methodLink "ProofCourt$Text" 3 Lib.objectInit ∈ hw_all := hw_in (i := 75) (by decide +kernel) (by decide +kernel)
theorem tw_76 : Cond.fieldLink "ProofCourt$Text" 9 "ProofCourt$Text" "characters" "[C" ∈ hw_all := hw_in (i := 76) (by decide +kernel) (by decide +kernel)
theorem tw_77 : Cond.fieldLink "ProofCourt$Text" 15 "ProofCourt$Text" "length" "I" ∈ hw_all := hw_in (i := 77) (by decide +kernel) (by decide +kernel)
theorem tw_99 : Cond.arrayClass .char ∈ hw_all := hw_in (i := 99) (by decide +kernel) (by decide +kernel)
theorem tw_100 : Cond.classLink "ProofCourt" 16 "ProofCourt$Proof" ∈ hw_all := hw_in (i := 100) (by decide +kernel) (by decide +kernel)
theorem tw_101 : Cond.instantiable "ProofCourt$Proof" 4 ∈ hw_all := hw_in (i := 101) (by decide +kernel) (by decide +kernel)
theorem tw_103 : Cond.instanceMethod ym_Pr_init ∈ hw_all := hw_in (i := 103) (by decide +kernel) (by decide +kernel)
theorem tw_104 : Cond.code ym_Pr_init cb_Pr_init 1 none ∈ hw_all := hw_in (i := 104) (by decide +kernel) (by decide +kernel)
theorem tw_105 : Cond.methodLink "ProofCourt$Proof" 3 Lib.objectInit ∈ hw_all := hw_in (i := 105) (by decide +kernel) (by decide +kernel)
theorem tw_106 : Cond.classLink "ProofCourt$Proof" 9 "ProofCourt$Clause" ∈ hw_all := hw_in (i := 106) (by decide +kernel) (by decide +kernel)
theorem tw_108 : Cond.fieldLink "ProofCourt$Proof" 11 "ProofCourt$Proof" "clauses" "[LProofCourt$Clause;" ∈ hw_all := hw_in (i := 108) (by decide +kernel) (by decide +kernel)
theorem tw_110 : Cond.fieldLink "ProofCourt$Proof" 24 "ProofCourt$Proof" "size" "I" ∈ hw_all := hw_in (i := 110) (by decide +kernel) (by decide +kernel)
theorem tw_113 : Cond.fieldLink "ProofCourt$Proof" 25 "ProofCourt$Proof" "highest" "I" ∈ hw_all := hw_in (i := 113) (by decide +kernel) (by decide +kernel)
theorem tw_114 : Cond.fieldLink "ProofCourt$Proof" 28 "ProofCourt$Proof" "addedEmpty" "Z" ∈ hw_all := hw_in (i := 114) (by decide +kernel) (by decide +kernel)
theorem tw_125 : Cond.classLink "ProofCourt" 23 "ProofCourt$Search" ∈ hw_all := hw_in (i := 125) (by decide +kernel) (by decide +kernel)
theorem tw_126 : Cond.instantiable "ProofCourt$Search" 15 ∈ hw_all := hw_in (i := 126) (by decide +kernel) (by decide +kernel)
theorem tw_128 : Cond.instanceMethod ym_Se_init ∈ hw_all := hw_in (i := 128) (by decide +kernel) (by decide +kernel)
theorem tw_129 : Cond.code ym_Se_init cb_Se_init 1 none ∈ hw_all := hw_in (i := 129) (by decide +kernel) (by decide +kernel)
theorem tw_130 : Cond.methodLink "ProofCourt$Search" 3 Lib.objectInit ∈ hw_all := hw_in (i := 130) (by decide +kernel) (by decide +kernel)
theorem tw_131 : Cond.fieldLink "ProofCourt$Search" 9 "ProofCourt$Search" "clauses" "[I" ∈ hw_all := hw_in (i := 131) (by decide +kernel) (by decide +kernel)
theorem tw_132 : Cond.fieldLink "ProofCourt$Search" 33 "ProofCourt$Search" "size" "I" ∈ hw_all := hw_in (i := 132) (by decide +kernel) (by decide +kernel)
theorem tw_133 : Cond.fieldLink "ProofCourt$Search" 45 "ProofCourt$Search" "variables" "I" ∈ hw_all := hw_in (i := 133) (by decide +kernel) (by decide +kernel)
theorem tw_134 : Cond.fieldLink "ProofCourt$Search" 46 "ProofCourt$Search" "finished" "Z" ∈ hw_all := hw_in (i := 134) (by decide +kernel) (by decide +kernel)
theorem tw_135 : Cond.fieldLink "ProofCourt$Search" 50 "ProofCourt$Search" "satisfied" "Z" ∈ hw_all := hw_in (i := 135) (by decide +kernel) (by decide +kernel)
theorem tw_136 : Cond.fieldLink "ProofCourt$Search" 53 "ProofCourt$Search" "reachedEmpty" "Z" ∈ hw_all := hw_in (i := 136) (by decide +kernel) (by decide +kernel)
theorem tw_138 : Cond.fieldLink "ProofCourt$Search" 56 "ProofCourt$Search" "stepsHold" "Z" ∈ hw_all := hw_in (i := 138) (by decide +kernel) (by decide +kernel)
theorem tw_140 : Cond.fieldLink "ProofCourt$Search" 59 "ProofCourt$Search" "known" "I" ∈ hw_all := hw_in (i := 140) (by decide +kernel) (by decide +kernel)
theorem tw_142 : Cond.fieldLink "ProofCourt$Search" 15 "ProofCourt$Search" "trail" "[I" ∈ hw_all := hw_in (i := 142) (by decide +kernel) (by decide +kernel)
theorem tw_143 : Cond.fieldLink "ProofCourt$Search" 18 "ProofCourt$Search" "reasons" "[I" ∈ hw_all := hw_in (i := 143) (by decide +kernel) (by decide +kernel)
theorem tw_144 : Cond.fieldLink "ProofCourt$Search" 62 "ProofCourt$Search" "trailSize" "I" ∈ hw_all := hw_in (i := 144) (by decide +kernel) (by decide +kernel)
theorem tw_145 : Cond.fieldLink "ProofCourt$Search" 21 "ProofCourt$Search" "knownBefore" "[I" ∈ hw_all := hw_in (i := 145) (by decide +kernel) (by decide +kernel)
theorem tw_146 : Cond.fieldLink "ProofCourt$Search" 65 "ProofCourt$Search" "level" "I" ∈ hw_all := hw_in (i := 146) (by decide +kernel) (by decide +kernel)
theorem tw_147 : Cond.fieldLink "ProofCourt$Search" 24 "ProofCourt$Search" "hints" "[I" ∈ hw_all := hw_in (i := 147) (by decide +kernel) (by decide +kernel)
theorem tw_180 : Cond.arrayClass .int ∈ hw_all := hw_in (i := 180) (by decide +kernel) (by decide +kernel)
theorem tw_181 : Cond.classLink "ProofCourt" 30 "ProofCourt$Formula" ∈ hw_all := hw_in (i := 181) (by decide +kernel) (by decide +kernel)
theorem tw_182 : Cond.instantiable "ProofCourt$Formula" 4 ∈ hw_all := hw_in (i := 182) (by decide +kernel) (by decide +kernel)
theorem tw_183 : Cond.methodLink "ProofCourt" 32 ym_Fo_init ∈ hw_all := hw_in (i := 183) (by decide +kernel) (by decide +kernel)
theorem tw_184 : Cond.instanceMethod ym_Fo_init ∈ hw_all := hw_in (i := 184) (by decide +kernel) (by decide +kernel)
theorem tw_185 : Cond.code ym_Fo_init cb_Fo_init 2 none ∈ hw_all := hw_in (i := 185) (by decide +kernel) (by decide +kernel)
theorem tw_186 : Cond.methodLink "ProofCourt$Formula" 3 Lib.objectInit ∈ hw_all := hw_in (i := 186) (by decide +kernel) (by decide +kernel)
theorem tw_187 : Cond.classLink "ProofCourt$Formula" 9 "ProofCourt$Clause" ∈ hw_all := hw_in (i := 187) (by decide +kernel) (by decide +kernel)
theorem tw_188 : Cond.fieldLink "ProofCourt$Formula" 21 "ProofCourt$Formula" "variables" "I" ∈ hw_all := hw_in (i := 188) (by decide +kernel) (by decide +kernel)
theorem tw_191 : Cond.fieldLink "ProofCourt$Formula" 11 "ProofCourt$Formula" "clauses" "[LProofCourt$Clause;" ∈ hw_all := hw_in (i := 191) (by decide +kernel) (by decide +kernel)
theorem tw_198 : Cond.fieldLink "ProofCourt$Formula" 17 "ProofCourt$Formula" "counted" "I" ∈ hw_all := hw_in (i := 198) (by decide +kernel) (by decide +kernel)
theorem tw_208 : Cond.methodLink "ProofCourt" 35 ym_Co_take ∈ hw_all := hw_in (i := 208) (by decide +kernel) (by decide +kernel)
theorem tw_210 : Cond.instanceMethod ym_Co_take ∈ hw_all := hw_in (i := 210) (by decide +kernel) (by decide +kernel)
theorem tw_211 : Cond.code ym_Co_take cb_Co_take 2 none ∈ hw_all := hw_in (i := 211) (by decide +kernel) (by decide +kernel)
theorem tw_212 : Cond.methodLink "ProofCourt" 130 ym_Pr_begin ∈ hw_all := hw_in (i := 212) (by decide +kernel) (by decide +kernel)
theorem tw_213 : Cond.instanceMethod ym_Pr_begin ∈ hw_all := hw_in (i := 213) (by decide +kernel) (by decide +kernel)
theorem tw_214 : Cond.selects "ProofCourt$Proof" ym_Pr_begin ym_Pr_begin ∈ hw_all := hw_in (i := 214) (by decide +kernel) (by decide +kernel)
theorem tw_215 : Cond.code ym_Pr_begin cb_Pr_begin 3 none ∈ hw_all := hw_in (i := 215) (by decide +kernel) (by decide +kernel)
theorem tw_216 : Cond.methodLink "ProofCourt" 133 ym_Se_begin ∈ hw_all := hw_in (i := 216) (by decide +kernel) (by decide +kernel)
theorem tw_217 : Cond.instanceMethod ym_Se_begin ∈ hw_all := hw_in (i := 217) (by decide +kernel) (by decide +kernel)
theorem tw_218 : Cond.selects "ProofCourt$Search" ym_Se_begin ym_Se_begin ∈ hw_all := hw_in (i := 218) (by decide +kernel) (by decide +kernel)
theorem tw_219 : Cond.code ym_Se_begin cb_Se_begin 3 none ∈ hw_all := hw_in (i := 219) (by decide +kernel) (by decide +kernel)
theorem tw_220 : Cond.fieldLink "ProofCourt" 12 "ProofCourt" "text" "LProofCourt$Text;" ∈ hw_all := hw_in (i := 220) (by decide +kernel) (by decide +kernel)
theorem tw_221 : Cond.fieldLink "ProofCourt" 19 "ProofCourt" "proof" "LProofCourt$Proof;" ∈ hw_all := hw_in (i := 221) (by decide +kernel) (by decide +kernel)
theorem tw_222 : Cond.fieldLink "ProofCourt" 26 "ProofCourt" "search" "LProofCourt$Search;" ∈ hw_all := hw_in (i := 222) (by decide +kernel) (by decide +kernel)
theorem tw_223 : Cond.fieldLink "ProofCourt" 57 "ProofCourt" "formula" "LProofCourt$Formula;" ∈ hw_all := hw_in (i := 223) (by decide +kernel) (by decide +kernel)
theorem tw_237 : Cond.methodLink "ProofCourt" 39 ym_Te_append ∈ hw_all := hw_in (i := 237) (by decide +kernel) (by decide +kernel)
theorem tw_238 : Cond.instanceMethod ym_Te_append ∈ hw_all := hw_in (i := 238) (by decide +kernel) (by decide +kernel)
theorem tw_239 : Cond.selects "ProofCourt$Text" ym_Te_append ym_Te_append ∈ hw_all := hw_in (i := 239) (by decide +kernel) (by decide +kernel)
theorem tw_240 : Cond.code ym_Te_append cb_Te_append 4 (some .boolean) ∈ hw_all := hw_in (i := 240) (by decide +kernel) (by decide +kernel)
theorem tw_241 : Cond.methodLink "ProofCourt$Text" 19 ym_Te_byteOf ∈ hw_all := hw_in (i := 241) (by decide +kernel) (by decide +kernel)
theorem tw_242 : Cond.static ym_Te_byteOf ∈ hw_all := hw_in (i := 242) (by decide +kernel) (by decide +kernel)
theorem tw_243 : Cond.code ym_Te_byteOf cb_Te_byteOf 2 (some .int) ∈ hw_all := hw_in (i := 243) (by decide +kernel) (by decide +kernel)
theorem tw_244 : Cond.methodLink "ProofCourt$Text" 23 ym_Te_isCharacter ∈ hw_all := hw_in (i := 244) (by decide +kernel) (by decide +kernel)
theorem tw_245 : Cond.static ym_Te_isCharacter ∈ hw_all := hw_in (i := 245) (by decide +kernel) (by decide +kernel)
theorem tw_246 : Cond.code ym_Te_isCharacter cb_Te_isCharacter 1 (some .boolean) ∈ hw_all := hw_in (i := 246) (by decide +kernel) (by decide +kernel)
theorem tw_435 : Cond.methodLink "ProofCourt" 135 ym_Co_opposites ∈ hw_all := hw_in (i := 435) (by decide +kernel) (by decide +kernel)
theorem tw_436 : Cond.static ym_Co_opposites ∈ hw_all := hw_in (i := 436) (by decide +kernel) (by decide +kernel)
theorem tw_437 : Cond.code ym_Co_opposites cb_Co_opposites 1 (some .int) ∈ hw_all := hw_in (i := 437) (by decide +kernel) (by decide +kernel)
theorem tw_438 : Cond.constant "ProofCourt" 134 1048575 ∈ hw_all := hw_in (i := 438) (by decide +kernel) (by decide +kernel)
theorem tw_439 : Cond.methodLink "ProofCourt" 98 ym_In_bitCount ∈ hw_all := hw_in (i := 439) (by decide +kernel) (by decide +kernel)
theorem tw_440 : Cond.static ym_In_bitCount ∈ hw_all := hw_in (i := 440) (by decide +kernel) (by decide +kernel)
theorem tw_441 : Cond.code ym_In_bitCount cb_In_bitCount 1 (some .int) ∈ hw_all := hw_in (i := 441) (by decide +kernel) (by decide +kernel)
theorem tw_442 : Cond.constant "java/lang/Integer" 265 1431655765 ∈ hw_all := hw_in (i := 442) (by decide +kernel) (by decide +kernel)
theorem tw_443 : Cond.constant "java/lang/Integer" 266 858993459 ∈ hw_all := hw_in (i := 443) (by decide +kernel) (by decide +kernel)
theorem tw_444 : Cond.constant "java/lang/Integer" 267 252645135 ∈ hw_all := hw_in (i := 444) (by decide +kernel) (by decide +kernel)
theorem uw_Te : ∀ w ∈ u_ws "ProofCourt$Text" ft_Te 6, w ∈ hw_all := hw_inl _ [86, 88, 90, 92, 94, 96] (by decide +kernel) (by decide +kernel)
theorem uw_Pr : ∀ w ∈ u_ws "ProofCourt$Proof" ft_Pr 4, w ∈ hw_all := hw_inl _ [116, 118, 120, 122] (by decide +kernel) (by decide +kernel)
theorem uw_Se : ∀ w ∈ u_ws "ProofCourt$Search" ft_Se 15, w ∈ hw_all := hw_inl _ [149, 151, 153, 155, 157, 159, 161, 163, 165, 167, 169, 171, 173, 175, 177] (by decide +kernel) (by decide +kernel)
theorem uw_Fo : ∀ w ∈ u_ws "ProofCourt$Formula" ft_Fo 4, w ∈ hw_all := hw_inl _ [199, 201, 203, 205] (by decide +kernel) (by decide +kernel)
theorem uw_Co : ∀ w ∈ u_ws "ProofCourt" ft_Co 4, w ∈ hw_all := hw_inl _ [224, 226, 228, 230] (by decide +kernel) (by decide +kernel)
theorem uw_Cl : ∀ w ∈ u_ws "ProofCourt$Clause" ft_Cl 4, w ∈ hw_all := hw_inl _ [377, 379, 381, 383] (by decide +kernel) (by decide +kernel)
theorem uw_Li : ∀ w ∈ u_ws "ProofCourt$Line" ft_Li 4, w ∈ hw_all := hw_inl _ [533, 535, 537, 539] (by decide +kernel) (by decide +kernel)
theorem uw_Ck : ∀ w ∈ u_ws "ProofCourt$Check" ft_Ck 4, w ∈ hw_all := hw_inl _ [579, 581, 583, 585] (by decide +kernel) (by decide +kernel)
theorem uw_Mo : ∀ w ∈ u_ws "ProofCourtModel" ft_Mo 21, w ∈ hw_all := hw_inl _ [643, 645, 647, 649, 651, 653, 655, 657, 659, 661, 663, 665, 667, 669, 671, 673, 675, 677, 679, 681, 683] (by decide +kernel) (by decide +kernel)
theorem fe_Te_15 {p : Program} {s : State} {m : MethodId} {args : Array Value} {c : Code} {cc : ByteArray} {nL : Nat} {w0 : Cond} {g : hw_G} {A : Nat → Prop} (X : hw_X p m c cc nL s args (w0 :: hw_all) "ProofCourt$Text" g A) : hw_F s args (w0 :: hw_all) "ProofCourt$Text" 15 0 1 := ⟨"ProofCourt$Text", ft_Te, 6, "ProofCourt$Text", rfl, by decide, fun w h => List.mem_cons_of_mem _ (uw_Te w h), Or.inl (X.1.2.2.2.2 _ (List.mem_cons_of_mem _ tw_77)), fun _ h => h⟩
theorem ye_Te_23 {p : Program} {s : State} {m : MethodId} {args : Array Value} {c : Code} {cc : ByteArray} {nL : Nat} {w0 : Cond} {g : hw_G} {A : Nat → Prop} (X : hw_X p m c cc nL s args (w0 :: hw_all) "ProofCourt$Text" g A) : hw_YS s args "ProofCourt$Text" 23 ym_Te_isCharacter cb_Te_isCharacter 1 (some .boolean) (mw_Te_isCharacter) 1 := fun R rm h1 h2 => Or.inl (va_cwS 1 X.1.2.2.2.2 (hw_gS tw_244 tw_245 tw_49 tw_246) rfl rfl rfl (by decide +kernel) ⟨h1, h2⟩)
theorem ye_Te_19 {p : Program} {s : State} {m : MethodId} {args : Array Value} {c : Code} {cc : ByteArray} {nL : Nat} {w0 : Cond} {g : hw_G} {A : Nat → Prop} (X : hw_X p m c cc nL s args (w0 :: hw_all) "ProofCourt$Text" g A) : hw_YS s args "ProofCourt$Text" 19 ym_Te_byteOf cb_Te_byteOf 2 (some .int) (mw_Te_byteOf) 2 := fun R rm h1 h2 => Or.inl (va_cwS 2 X.1.2.2.2.2 (hw_gS tw_241 tw_242 tw_49 tw_243) rfl rfl rfl (by decide +kernel) ⟨h1, h2⟩)
theorem fp_Te_15 {p : Program} {s : State} {m : MethodId} {args : Array Value} {c : Code} {cc : ByteArray} {nL : Nat} {w0 : Cond} {g : hw_G} {A : Nat → Prop} (X : hw_X p m c cc nL s args (w0 :: hw_all) "ProofCourt$Text" g A) : hw_FP s args (w0 :: hw_all) "ProofCourt$Text" 15 0 1 .int := ⟨"ProofCourt$Text", ft_Te, 6, "ProofCourt$Text", fy_Te, rfl, by decide, fun w h => List.mem_cons_of_mem _ (uw_Te w h), Or.inl (X.1.2.2.2.2 _ (List.mem_cons_of_mem _ tw_77)), fun _ h => h, fz_Te, fn_Te, rfl, by decide +kernel⟩
theorem fe_Te_9 {p : Program} {s : State} {m : MethodId} {args : Array Value} {c : Code} {cc : ByteArray} {nL : Nat} {w0 : Cond} {g : hw_G} {A : Nat → Prop} (X : hw_X p m c cc nL s args (w0 :: hw_all) "ProofCourt$Text" g A) : hw_F s args (w0 :: hw_all) "ProofCourt$Text" 9 0 0 := ⟨"ProofCourt$Text", ft_Te, 6, "ProofCourt$Text", rfl, by decide, fun w h => List.mem_cons_of_mem _ (uw_Te w h), Or.inl (X.1.2.2.2.2 _ (List.mem_cons_of_mem _ tw_76)), fun _ h => h⟩
theorem kc_In_265 {p : Program} {s : State} {m : MethodId} {args : Array Value} {c : Code} {cc : ByteArray} {nL : Nat} {w0 : Cond} {g : hw_G} {A : Nat → Prop} (X : hw_X p m c cc nL s args (w0 :: hw_all) "java/lang/Integer" g A) : (Cond.constant "java/lang/Integer" 265 1431655765).before args s = true := (X.1.2.2.2.2 _ (List.mem_cons_of_mem _ tw_442))
theorem kc_In_266 {p : Program} {s : State} {m : MethodId} {args : Array Value} {c : Code} {cc : ByteArray} {nL : Nat} {w0 : Cond} {g : hw_G} {A : Nat → Prop} (X : hw_X p m c cc nL s args (w0 :: hw_all) "java/lang/Integer" g A) : (Cond.constant "java/lang/Integer" 266 858993459).before args s = true := (X.1.2.2.2.2 _ (List.mem_cons_of_mem _ tw_443))
theorem kc_In_267 {p : Program} {s : State} {m : MethodId} {args : Array Value} {c : Code} {cc : ByteArray} {nL : Nat} {w0 : Cond} {g : hw_G} {A : Nat → Prop} (X : hw_X p m c cc nL s args (w0 :: hw_all) "java/lang/Integer" g A) : (Cond.constant "java/lang/Integer" 267 252645135).before args s = true := (X.1.2.2.2.2 _ (List.mem_cons_of_mem _ tw_444))
theorem kc_Co_134 {p : Program} {s : State} {m : MethodId} {args : Array Value} {c : Code} {cc : ByteArray} {nL : Nat} {w0 : Cond} {g : hw_G} {A : Nat → Prop} (X : hw_X p m c cc nL s args (w0 :: hw_all) "ProofCourt" g A) : (Cond.constant "ProofCourt" 134 1048575).before args s = true := (X.1.2.2.2.2 _ (List.mem_cons_of_mem _ tw_438))
theorem ye_Co_98 {p : Program} {s : State} {m : MethodId} {args : Array Value} {c : Code} {cc : ByteArray} {nL : Nat} {w0 : Cond} {g : hw_G} {A : Nat → Prop} (X : hw_X p m c cc nL s args (w0 :: hw_all) "ProofCourt" g A) : hw_YS s args "ProofCourt" 98 ym_In_bitCount cb_In_bitCount 1 (some .int) (mw_In_bitCount) 1 := fun R rm h1 h2 => Or.inl (va_cwS 1 X.1.2.2.2.2 (hw_gS tw_439 tw_440 tw_59 tw_441) rfl rfl rfl (by decide +kernel) ⟨h1, h2⟩)
theorem ye_Co_135 {p : Program} {s : State} {m : MethodId} {args : Array Value} {c : Code} {cc : ByteArray} {nL : Nat} {w0 : Cond} {g : hw_G} {A : Nat → Prop} (X : hw_X p m c cc nL s args (w0 :: hw_all) "ProofCourt" g A) : hw_YS s args "ProofCourt" 135 ym_Co_opposites cb_Co_opposites 1 (some .int) (mw_Co_opposites) 1 := fun R rm h1 h2 => Or.inl (va_cwS 1 X.1.2.2.2.2 (hw_gS tw_435 tw_436 tw_48 tw_437) rfl rfl rfl (by decide +kernel) ⟨h1, h2⟩)
theorem oi_Te_3 {p : Program} {s : State} {m : MethodId} {args : Array Value} {c : Code} {cc : ByteArray} {nL : Nat} {w0 : Cond} {g : hw_G} {A : Nat → Prop} (X : hw_X p m c cc nL s args (w0 :: hw_all) "ProofCourt$Text" g A) : (Cond.methodLink "ProofCourt$Text" 3 Lib.objectInit).before args s = true := (X.1.2.2.2.2 _ (List.mem_cons_of_mem _ tw_75))
theorem oj_Te {p : Program} {s : State} {m : MethodId} {args : Array Value} {c : Code} {cc : ByteArray} {nL : Nat} {w0 : Cond} {g : hw_G} {A : Nat → Prop} (X : hw_X p m c cc nL s args (w0 :: hw_all) "ProofCourt$Text" g A) : (Cond.instanceMethod Lib.objectInit).before args s = true := (X.1.2.2.2.2 _ (List.mem_cons_of_mem _ tw_68))
theorem ok_Te {p : Program} {s : State} {m : MethodId} {args : Array Value} {c : Code} {cc : ByteArray} {nL : Nat} {w0 : Cond} {g : hw_G} {A : Nat → Prop} (X : hw_X p m c cc nL s args (w0 :: hw_all) "ProofCourt$Text" g A) : (Cond.code Lib.objectInit ⟨#[0xb1]⟩ 1 none).before args s = true := (X.1.2.2.2.2 _ (List.mem_cons_of_mem _ tw_69))
theorem ff_Te_9 {p : Program} {s : State} {m : MethodId} {args : Array Value} {c : Code} {cc : ByteArray} {nL : Nat} {w0 : Cond} {g : hw_G} {A : Nat → Prop} (X : hw_X p m c cc nL s args (w0 :: hw_all) "ProofCourt$Text" g A) : hw_FF s args (w0 :: hw_all) "ProofCourt$Text" 9 0 0 (.array .char) := ⟨"ProofCourt$Text", ft_Te, 6, "ProofCourt$Text", fy_Te, rfl, by decide, fun w h => List.mem_cons_of_mem _ (uw_Te w h), (X.1.2.2.2.2 _ (List.mem_cons_of_mem _ tw_76)), fun _ h => h, fz_Te, fn_Te, rfl, rfl, by decide +kernel⟩
theorem ac_Te_char {p : Program} {s : State} {m : MethodId} {args : Array Value} {c : Code} {cc : ByteArray} {nL : Nat} {w0 : Cond} {g : hw_G} {A : Nat → Prop} (X : hw_X p m c cc nL s args (w0 :: hw_all) "ProofCourt$Text" g A) : (Cond.arrayClass (newarray.typeOf .char)).before args s = true := (X.1.2.2.2.2 _ (List.mem_cons_of_mem _ tw_99))
theorem oi_Pr_3 {p : Program} {s : State} {m : MethodId} {args : Array Value} {c : Code} {cc : ByteArray} {nL : Nat} {w0 : Cond} {g : hw_G} {A : Nat → Prop} (X : hw_X p m c cc nL s args (w0 :: hw_all) "ProofCourt$Proof" g A) : (Cond.methodLink "ProofCourt$Proof" 3 Lib.objectInit).before args s = true := (X.1.2.2.2.2 _ (List.mem_cons_of_mem _ tw_105))
theorem oj_Pr {p : Program} {s : State} {m : MethodId} {args : Array Value} {c : Code} {cc : ByteArray} {nL : Nat} {w0 : Cond} {g : hw_G} {A : Nat → Prop} (X : hw_X p m c cc nL s args (w0 :: hw_all) "ProofCourt$Proof" g A) : (Cond.instanceMethod Lib.objectInit).before args s = true := (X.1.2.2.2.2 _ (List.mem_cons_of_mem _ tw_68))
theorem ok_Pr {p : Program} {s : State} {m : MethodId} {args : Array Value} {c : Code} {cc : ByteArray} {nL : Nat} {w0 : Cond} {g : hw_G} {A : Nat → Prop} (X : hw_X p m c cc nL s args (w0 :: hw_all) "ProofCourt$Proof" g A) : (Cond.code Lib.objectInit ⟨#[0xb1]⟩ 1 none).before args s = true := (X.1.2.2.2.2 _ (List.mem_cons_of_mem _ tw_69))
theorem ff_Pr_11 {p : Program} {s : State} {m : MethodId} {args : Array Value} {c : Code} {cc : ByteArray} {nL : Nat} {w0 : Cond} {g : hw_G} {A : Nat → Prop} (X : hw_X p m c cc nL s args (w0 :: hw_all) "ProofCourt$Proof" g A) : hw_FF s args (w0 :: hw_all) "ProofCourt$Proof" 11 1 0 (.array (.object "ProofCourt$Clause")) := ⟨"ProofCourt$Proof", ft_Pr, 4, "ProofCourt$Proof", fy_Pr, rfl, by decide, fun w h => List.mem_cons_of_mem _ (uw_Pr w h), (X.1.2.2.2.2 _ (List.mem_cons_of_mem _ tw_108)), fun _ h => h, fz_Pr, fn_Pr, rfl, rfl, by decide +kernel⟩
theorem cq_Pr_9 {p : Program} {s : State} {m : MethodId} {args : Array Value} {c : Code} {cc : ByteArray} {nL : Nat} {w0 : Cond} {g : hw_G} {A : Nat → Prop} (X : hw_X p m c cc nL s args (w0 :: hw_all) "ProofCourt$Proof" g A) : (Cond.classLink "ProofCourt$Proof" 9 "ProofCourt$Clause").before args s = true := (X.1.2.2.2.2 _ (List.mem_cons_of_mem _ tw_106))
theorem co_Pr {p : Program} {s : State} {m : MethodId} {args : Array Value} {c : Code} {cc : ByteArray} {nL : Nat} {w0 : Cond} {g : hw_G} {A : Nat → Prop} (X : hw_X p m c cc nL s args (w0 :: hw_all) "ProofCourt$Proof" g A) : va_AO "ProofCourt$Clause" s := X.2.2.2.2.2.2.2
theorem oi_Se_3 {p : Program} {s : State} {m : MethodId} {args : Array Value} {c : Code} {cc : ByteArray} {nL : Nat} {w0 : Cond} {g : hw_G} {A : Nat → Prop} (X : hw_X p m c cc nL s args (w0 :: hw_all) "ProofCourt$Search" g A) : (Cond.methodLink "ProofCourt$Search" 3 Lib.objectInit).before args s = true := (X.1.2.2.2.2 _ (List.mem_cons_of_mem _ tw_130))
theorem oj_Se {p : Program} {s : State} {m : MethodId} {args : Array Value} {c : Code} {cc : ByteArray} {nL : Nat} {w0 : Cond} {g : hw_G} {A : Nat → Prop} (X : hw_X p m c cc nL s args (w0 :: hw_all) "ProofCourt$Search" g A) : (Cond.instanceMethod Lib.objectInit).before args s = true := (X.1.2.2.2.2 _ (List.mem_cons_of_mem _ tw_68))
theorem ok_Se {p : Program} {s : State} {m : MethodId} {args : Array Value} {c : Code} {cc : ByteArray} {nL : Nat} {w0 : Cond} {g : hw_G} {A : Nat → Prop} (X : hw_X p m c cc nL s args (w0 :: hw_all) "ProofCourt$Search" g A) : (Cond.code Lib.objectInit ⟨#[0xb1]⟩ 1 none).before args s = true := (X.1.2.2.2.2 _ (List.mem_cons_of_mem _ tw_69))
theorem ff_Se_24 {p : Program} {s : State} {m : MethodId} {args : Array Value} {c : Code} {cc : ByteArray} {nL : Nat} {w0 : Cond} {g : hw_G} {A : Nat → Prop} (X : hw_X p m c cc nL s args (w0 :: hw_all) "ProofCourt$Search" g A) : hw_FF s args (w0 :: hw_all) "ProofCourt$Search" 24 2 13 (.array .int) := ⟨"ProofCourt$Search", ft_Se, 15, "ProofCourt$Search", fy_Se, rfl, by decide, fun w h => List.mem_cons_of_mem _ (uw_Se w h), (X.1.2.2.2.2 _ (List.mem_cons_of_mem _ tw_147)), fun _ h => h, fz_Se, fn_Se, rfl, rfl, by decide +kernel⟩
theorem ac_Se_int {p : Program} {s : State} {m : MethodId} {args : Array Value} {c : Code} {cc : ByteArray} {nL : Nat} {w0 : Cond} {g : hw_G} {A : Nat → Prop} (X : hw_X p m c cc nL s args (w0 :: hw_all) "ProofCourt$Search" g A) : (Cond.arrayClass (newarray.typeOf .int)).before args s = true := (X.1.2.2.2.2 _ (List.mem_cons_of_mem _ tw_180))
theorem ff_Se_21 {p : Program} {s : State} {m : MethodId} {args : Array Value} {c : Code} {cc : ByteArray} {nL : Nat} {w0 : Cond} {g : hw_G} {A : Nat → Prop} (X : hw_X p m c cc nL s args (w0 :: hw_all) "ProofCourt$Search" g A) : hw_FF s args (w0 :: hw_all) "ProofCourt$Search" 21 2 11 (.array .int) := ⟨"ProofCourt$Search", ft_Se, 15, "ProofCourt$Search", fy_Se, rfl, by decide, fun w h => List.mem_cons_of_mem _ (uw_Se w h), (X.1.2.2.2.2 _ (List.mem_cons_of_mem _ tw_145)), fun _ h => h, fz_Se, fn_Se, rfl, rfl, by decide +kernel⟩
theorem ff_Se_18 {p : Program} {s : State} {m : MethodId} {args : Array Value} {c : Code} {cc : ByteArray} {nL : Nat} {w0 : Cond} {g : hw_G} {A : Nat → Prop} (X : hw_X p m c cc nL s args (w0 :: hw_all) "ProofCourt$Search" g A) : hw_FF s args (w0 :: hw_all) "ProofCourt$Search" 18 2 9 (.array .int) := ⟨"ProofCourt$Search", ft_Se, 15, "ProofCourt$Search", fy_Se, rfl, by decide, fun w h => List.mem_cons_of_mem _ (uw_Se w h), (X.1.2.2.2.2 _ (List.mem_cons_of_mem _ tw_143)), fun _ h => h, fz_Se, fn_Se, rfl, rfl, by decide +kernel⟩
theorem ff_Se_15 {p : Program} {s : State} {m : MethodId} {args : Array Value} {c : Code} {cc : ByteArray} {nL : Nat} {w0 : Cond} {g : hw_G} {A : Nat → Prop} (X : hw_X p m c cc nL s args (w0 :: hw_all) "ProofCourt$Search" g A) : hw_FF s args (w0 :: hw_all) "ProofCourt$Search" 15 2 8 (.array .int) := ⟨"ProofCourt$Search", ft_Se, 15, "ProofCourt$Search", fy_Se, rfl, by decide, fun w h => List.mem_cons_of_mem _ (uw_Se w h), (X.1.2.2.2.2 _ (List.mem_cons_of_mem _ tw_142)), fun _ h => h, fz_Se, fn_Se, rfl, rfl, by decide +kernel⟩
theorem ff_Se_9 {p : Program} {s : State} {m : MethodId} {args : Array Value} {c : Code} {cc : ByteArray} {nL : Nat} {w0 : Cond} {g : hw_G} {A : Nat → Prop} (X : hw_X p m c cc nL s args (w0 :: hw_all) "ProofCourt$Search" g A) : hw_FF s args (w0 :: hw_all) "ProofCourt$Search" 9 2 0 (.array .int) := ⟨"ProofCourt$Search", ft_Se, 15, "ProofCourt$Search", fy_Se, rfl, by decide, fun w h => List.mem_cons_of_mem _ (uw_Se w h), (X.1.2.2.2.2 _ (List.mem_cons_of_mem _ tw_131)), fun _ h => h, fz_Se, fn_Se, rfl, rfl, by decide +kernel⟩
theorem oi_Fo_3 {p : Program} {s : State} {m : MethodId} {args : Array Value} {c : Code} {cc : ByteArray} {nL : Nat} {w0 : Cond} {g : hw_G} {A : Nat → Prop} (X : hw_X p m c cc nL s args (w0 :: hw_all) "ProofCourt$Formula" g A) : (Cond.methodLink "ProofCourt$Formula" 3 Lib.objectInit).before args s = true := (X.1.2.2.2.2 _ (List.mem_cons_of_mem _ tw_186))
theorem oj_Fo {p : Program} {s : State} {m : MethodId} {args : Array Value} {c : Code} {cc : ByteArray} {nL : Nat} {w0 : Cond} {g : hw_G} {A : Nat → Prop} (X : hw_X p m c cc nL s args (w0 :: hw_all) "ProofCourt$Formula" g A) : (Cond.instanceMethod Lib.objectInit).before args s = true := (X.1.2.2.2.2 _ (List.mem_cons_of_mem _ tw_68))
theorem ok_Fo {p : Program} {s : State} {m : MethodId} {args : Array Value} {c : Code} {cc : ByteArray} {nL : Nat} {w0 : Cond} {g : hw_G} {A : Nat → Prop} (X : hw_X p m c cc nL s args (w0 :: hw_all) "ProofCourt$Formula" g A) : (Cond.code Lib.objectInit ⟨#[0xb1]⟩ 1 none).before args s = true := (X.1.2.2.2.2 _ (List.mem_cons_of_mem _ tw_69))
theorem ff_Fo_21 {p : Program} {s : State} {m : MethodId} {args : Array Value} {c : Code} {cc : ByteArray} {nL : Nat} {w0 : Cond} {g : hw_G} {A : Nat → Prop} (X : hw_X p m c cc nL s args (w0 :: hw_all) "ProofCourt$Formula" g A) : hw_FF s args (w0 :: hw_all) "ProofCourt$Formula" 21 3 0 .int := ⟨"ProofCourt$Formula", ft_Fo, 4, "ProofCourt$Formula", fy_Fo, rfl, by decide, fun w h => List.mem_cons_of_mem _ (uw_Fo w h), (X.1.2.2.2.2 _ (List.mem_cons_of_mem _ tw_188)), fun _ h => h, fz_Fo, fn_Fo, rfl, rfl, by decide +kernel⟩
theorem fp_Fo_17 {p : Program} {s : State} {m : MethodId} {args : Array Value} {c : Code} {cc : ByteArray} {nL : Nat} {w0 : Cond} {g : hw_G} {A : Nat → Prop} (X : hw_X p m c cc nL s args (w0 :: hw_all) "ProofCourt$Formula" g A) : hw_FP s args (w0 :: hw_all) "ProofCourt$Formula" 17 3 3 .int := ⟨"ProofCourt$Formula", ft_Fo, 4, "ProofCourt$Formula", fy_Fo, rfl, by decide, fun w h => List.mem_cons_of_mem _ (uw_Fo w h), Or.inl (X.1.2.2.2.2 _ (List.mem_cons_of_mem _ tw_198)), fun _ h => h, fz_Fo, fn_Fo, rfl, by decide +kernel⟩
theorem ff_Fo_11 {p : Program} {s : State} {m : MethodId} {args : Array Value} {c : Code} {cc : ByteArray} {nL : Nat} {w0 : Cond} {g : hw_G} {A : Nat → Prop} (X : hw_X p m c cc nL s args (w0 :: hw_all) "ProofCourt$Formula" g A) : hw_FF s args (w0 :: hw_all) "ProofCourt$Formula" 11 3 1 (.array (.object "ProofCourt$Clause")) := ⟨"ProofCourt$Formula", ft_Fo, 4, "ProofCourt$Formula", fy_Fo, rfl, by decide, fun w h => List.mem_cons_of_mem _ (uw_Fo w h), (X.1.2.2.2.2 _ (List.mem_cons_of_mem _ tw_191)), fun _ h => h, fz_Fo, fn_Fo, rfl, rfl, by decide +kernel⟩
theorem cq_Fo_9 {p : Program} {s : State} {m : MethodId} {args : Array Value} {c : Code} {cc : ByteArray} {nL : Nat} {w0 : Cond} {g : hw_G} {A : Nat → Prop} (X : hw_X p m c cc nL s args (w0 :: hw_all) "ProofCourt$Formula" g A) : (Cond.classLink "ProofCourt$Formula" 9 "ProofCourt$Clause").before args s = true := (X.1.2.2.2.2 _ (List.mem_cons_of_mem _ tw_187))
theorem co_Fo {p : Program} {s : State} {m : MethodId} {args : Array Value} {c : Code} {cc : ByteArray} {nL : Nat} {w0 : Cond} {g : hw_G} {A : Nat → Prop} (X : hw_X p m c cc nL s args (w0 :: hw_all) "ProofCourt$Formula" g A) : va_AO "ProofCourt$Clause" s := X.2.2.2.2.2.2.2
theorem fp_Pr_28 {p : Program} {s : State} {m : MethodId} {args : Array Value} {c : Code} {cc : ByteArray} {nL : Nat} {w0 : Cond} {g : hw_G} {A : Nat → Prop} (X : hw_X p m c cc nL s args (w0 :: hw_all) "ProofCourt$Proof" g A) : hw_FP s args (w0 :: hw_all) "ProofCourt$Proof" 28 1 3 .boolean := ⟨"ProofCourt$Proof", ft_Pr, 4, "ProofCourt$Proof", fy_Pr, rfl, by decide, fun w h => List.mem_cons_of_mem _ (uw_Pr w h), Or.inl (X.1.2.2.2.2 _ (List.mem_cons_of_mem _ tw_114)), fun _ h => h, fz_Pr, fn_Pr, rfl, by decide +kernel⟩
theorem fp_Pr_25 {p : Program} {s : State} {m : MethodId} {args : Array Value} {c : Code} {cc : ByteArray} {nL : Nat} {w0 : Cond} {g : hw_G} {A : Nat → Prop} (X : hw_X p m c cc nL s args (w0 :: hw_all) "ProofCourt$Proof" g A) : hw_FP s args (w0 :: hw_all) "ProofCourt$Proof" 25 1 2 .int := ⟨"ProofCourt$Proof", ft_Pr, 4, "ProofCourt$Proof", fy_Pr, rfl, by decide, fun w h => List.mem_cons_of_mem _ (uw_Pr w h), Or.inl (X.1.2.2.2.2 _ (List.mem_cons_of_mem _ tw_113)), fun _ h => h, fz_Pr, fn_Pr, rfl, by decide +kernel⟩
theorem fe_Pr_17 {p : Program} {s : State} {m : MethodId} {args : Array Value} {c : Code} {cc : ByteArray} {nL : Nat} {w0 : Cond} {g : hw_G} {A : Nat → Prop} (X : hw_X p m c cc nL s args (w0 :: hw_all) "ProofCourt$Proof" g A) : hw_F s args (w0 :: hw_all) "ProofCourt$Proof" 17 3 2 := ⟨"ProofCourt$Formula", ft_Fo, 4, "ProofCourt$Formula", rfl, by decide, fun w h => List.mem_cons_of_mem _ (uw_Fo w h), Or.inr ⟨"ProofCourt", va_Nw.use rfl (X.2.2.2.1 _ (hw_nest_at 19 rfl))⟩, fun _ h => h⟩
theorem fp_Pr_24 {p : Program} {s : State} {m : MethodId} {args : Array Value} {c : Code} {cc : ByteArray} {nL : Nat} {w0 : Cond} {g : hw_G} {A : Nat → Prop} (X : hw_X p m c cc nL s args (w0 :: hw_all) "ProofCourt$Proof" g A) : hw_FP s args (w0 :: hw_all) "ProofCourt$Proof" 24 1 1 .int := ⟨"ProofCourt$Proof", ft_Pr, 4, "ProofCourt$Proof", fy_Pr, rfl, by decide, fun w h => List.mem_cons_of_mem _ (uw_Pr w h), Or.inl (X.1.2.2.2.2 _ (List.mem_cons_of_mem _ tw_110)), fun _ h => h, fz_Pr, fn_Pr, rfl, by decide +kernel⟩
theorem fe_Pr_23 {p : Program} {s : State} {m : MethodId} {args : Array Value} {c : Code} {cc : ByteArray} {nL : Nat} {w0 : Cond} {g : hw_G} {A : Nat → Prop} (X : hw_X p m c cc nL s args (w0 :: hw_all) "ProofCourt$Proof" g A) : hw_F s args (w0 :: hw_all) "ProofCourt$Proof" 23 3 1 := ⟨"ProofCourt$Formula", ft_Fo, 4, "ProofCourt$Formula", rfl, by decide, fun w h => List.mem_cons_of_mem _ (uw_Fo w h), Or.inr ⟨"ProofCourt", va_Nw.use rfl (X.2.2.2.1 _ (hw_nest_at 16 rfl))⟩, fun _ h => h⟩
theorem fe_Pr_11 {p : Program} {s : State} {m : MethodId} {args : Array Value} {c : Code} {cc : ByteArray} {nL : Nat} {w0 : Cond} {g : hw_G} {A : Nat → Prop} (X : hw_X p m c cc nL s args (w0 :: hw_all) "ProofCourt$Proof" g A) : hw_F s args (w0 :: hw_all) "ProofCourt$Proof" 11 1 0 := ⟨"ProofCourt$Proof", ft_Pr, 4, "ProofCourt$Proof", rfl, by decide, fun w h => List.mem_cons_of_mem _ (uw_Pr w h), Or.inl (X.1.2.2.2.2 _ (List.mem_cons_of_mem _ tw_108)), fun _ h => h⟩
theorem fp_Se_33 {p : Program} {s : State} {m : MethodId} {args : Array Value} {c : Code} {cc : ByteArray} {nL : Nat} {w0 : Cond} {g : hw_G} {A : Nat → Prop} (X : hw_X p m c cc nL s args (w0 :: hw_all) "ProofCourt$Search" g A) : hw_FP s args (w0 :: hw_all) "ProofCourt$Search" 33 2 1 .int := ⟨"ProofCourt$Search", ft_Se, 15, "ProofCourt$Search", fy_Se, rfl, by decide, fun w h => List.mem_cons_of_mem _ (uw_Se w h), Or.inl (X.1.2.2.2.2 _ (List.mem_cons_of_mem _ tw_132)), fun _ h => h, fz_Se, fn_Se, rfl, by decide +kernel⟩
theorem fe_Se_27 {p : Program} {s : State} {m : MethodId} {args : Array Value} {c : Code} {cc : ByteArray} {nL : Nat} {w0 : Cond} {g : hw_G} {A : Nat → Prop} (X : hw_X p m c cc nL s args (w0 :: hw_all) "ProofCourt$Search" g A) : hw_F s args (w0 :: hw_all) "ProofCourt$Search" 27 3 2 := ⟨"ProofCourt$Formula", ft_Fo, 4, "ProofCourt$Formula", rfl, by decide, fun w h => List.mem_cons_of_mem _ (uw_Fo w h), Or.inr ⟨"ProofCourt", va_Nw.use rfl (X.2.2.2.1 _ (hw_nest_at 18 rfl))⟩, fun _ h => h⟩
theorem fp_Se_65 {p : Program} {s : State} {m : MethodId} {args : Array Value} {c : Code} {cc : ByteArray} {nL : Nat} {w0 : Cond} {g : hw_G} {A : Nat → Prop} (X : hw_X p m c cc nL s args (w0 :: hw_all) "ProofCourt$Search" g A) : hw_FP s args (w0 :: hw_all) "ProofCourt$Search" 65 2 12 .int := ⟨"ProofCourt$Search", ft_Se, 15, "ProofCourt$Search", fy_Se, rfl, by decide, fun w h => List.mem_cons_of_mem _ (uw_Se w h), Or.inl (X.1.2.2.2.2 _ (List.mem_cons_of_mem _ tw_146)), fun _ h => h, fz_Se, fn_Se, rfl, by decide +kernel⟩
theorem fp_Se_62 {p : Program} {s : State} {m : MethodId} {args : Array Value} {c : Code} {cc : ByteArray} {nL : Nat} {w0 : Cond} {g : hw_G} {A : Nat → Prop} (X : hw_X p m c cc nL s args (w0 :: hw_all) "ProofCourt$Search" g A) : hw_FP s args (w0 :: hw_all) "ProofCourt$Search" 62 2 10 .int := ⟨"ProofCourt$Search", ft_Se, 15, "ProofCourt$Search", fy_Se, rfl, by decide, fun w h => List.mem_cons_of_mem _ (uw_Se w h), Or.inl (X.1.2.2.2.2 _ (List.mem_cons_of_mem _ tw_144)), fun _ h => h, fz_Se, fn_Se, rfl, by decide +kernel⟩
theorem fp_Se_59 {p : Program} {s : State} {m : MethodId} {args : Array Value} {c : Code} {cc : ByteArray} {nL : Nat} {w0 : Cond} {g : hw_G} {A : Nat → Prop} (X : hw_X p m c cc nL s args (w0 :: hw_all) "ProofCourt$Search" g A) : hw_FP s args (w0 :: hw_all) "ProofCourt$Search" 59 2 7 .int := ⟨"ProofCourt$Search", ft_Se, 15, "ProofCourt$Search", fy_Se, rfl, by decide, fun w h => List.mem_cons_of_mem _ (uw_Se w h), Or.inl (X.1.2.2.2.2 _ (List.mem_cons_of_mem _ tw_140)), fun _ h => h, fz_Se, fn_Se, rfl, by decide +kernel⟩
theorem fp_Se_56 {p : Program} {s : State} {m : MethodId} {args : Array Value} {c : Code} {cc : ByteArray} {nL : Nat} {w0 : Cond} {g : hw_G} {A : Nat → Prop} (X : hw_X p m c cc nL s args (w0 :: hw_all) "ProofCourt$Search" g A) : hw_FP s args (w0 :: hw_all) "ProofCourt$Search" 56 2 6 .boolean := ⟨"ProofCourt$Search", ft_Se, 15, "ProofCourt$Search", fy_Se, rfl, by decide, fun w h => List.mem_cons_of_mem _ (uw_Se w h), Or.inl (X.1.2.2.2.2 _ (List.mem_cons_of_mem _ tw_138)), fun _ h => h, fz_Se, fn_Se, rfl, by decide +kernel⟩
theorem fp_Se_53 {p : Program} {s : State} {m : MethodId} {args : Array Value} {c : Code} {cc : ByteArray} {nL : Nat} {w0 : Cond} {g : hw_G} {A : Nat → Prop} (X : hw_X p m c cc nL s args (w0 :: hw_all) "ProofCourt$Search" g A) : hw_FP s args (w0 :: hw_all) "ProofCourt$Search" 53 2 5 .boolean := ⟨"ProofCourt$Search", ft_Se, 15, "ProofCourt$Search", fy_Se, rfl, by decide, fun w h => List.mem_cons_of_mem _ (uw_Se w h), Or.inl (X.1.2.2.2.2 _ (List.mem_cons_of_mem _ tw_136)), fun _ h => h, fz_Se, fn_Se, rfl, by decide +kernel⟩
theorem fp_Se_50 {p : Program} {s : State} {m : MethodId} {args : Array Value} {c : Code} {cc : ByteArray} {nL : Nat} {w0 : Cond} {g : hw_G} {A : Nat → Prop} (X : hw_X p m c cc nL s args (w0 :: hw_all) "ProofCourt$Search" g A) : hw_FP s args (w0 :: hw_all) "ProofCourt$Search" 50 2 4 .boolean := ⟨"ProofCourt$Search", ft_Se, 15, "ProofCourt$Search", fy_Se, rfl, by decide, fun w h => List.mem_cons_of_mem _ (uw_Se w h), Or.inl (X.1.2.2.2.2 _ (List.mem_cons_of_mem _ tw_135)), fun _ h => h, fz_Se, fn_Se, rfl, by decide +kernel⟩
theorem fp_Se_46 {p : Program} {s : State} {m : MethodId} {args : Array Value} {c : Code} {cc : ByteArray} {nL : Nat} {w0 : Cond} {g : hw_G} {A : Nat → Prop} (X : hw_X p m c cc nL s args (w0 :: hw_all) "ProofCourt$Search" g A) : hw_FP s args (w0 :: hw_all) "ProofCourt$Search" 46 2 3 .boolean := ⟨"ProofCourt$Search", ft_Se, 15, "ProofCourt$Search", fy_Se, rfl, by decide, fun w h => List.mem_cons_of_mem _ (uw_Se w h), Or.inl (X.1.2.2.2.2 _ (List.mem_cons_of_mem _ tw_134)), fun _ h => h, fz_Se, fn_Se, rfl, by decide +kernel⟩
theorem fp_Se_45 {p : Program} {s : State} {m : MethodId} {args : Array Value} {c : Code} {cc : ByteArray} {nL : Nat} {w0 : Cond} {g : hw_G} {A : Nat → Prop} (X : hw_X p m c cc nL s args (w0 :: hw_all) "ProofCourt$Search" g A) : hw_FP s args (w0 :: hw_all) "ProofCourt$Search" 45 2 2 .int := ⟨"ProofCourt$Search", ft_Se, 15, "ProofCourt$Search", fy_Se, rfl, by decide, fun w h => List.mem_cons_of_mem _ (uw_Se w h), Or.inl (X.1.2.2.2.2 _ (List.mem_cons_of_mem _ tw_133)), fun _ h => h, fz_Se, fn_Se, rfl, by decide +kernel⟩
theorem fe_Se_42 {p : Program} {s : State} {m : MethodId} {args : Array Value} {c : Code} {cc : ByteArray} {nL : Nat} {w0 : Cond} {g : hw_G} {A : Nat → Prop} (X : hw_X p m c cc nL s args (w0 :: hw_all) "ProofCourt$Search" g A) : hw_F s args (w0 :: hw_all) "ProofCourt$Search" 42 3 0 := ⟨"ProofCourt$Formula", ft_Fo, 4, "ProofCourt$Formula", rfl, by decide, fun w h => List.mem_cons_of_mem _ (uw_Fo w h), Or.inr ⟨"ProofCourt", va_Nw.use rfl (X.2.2.2.1 _ (hw_nest_at 14 rfl))⟩, fun _ h => h⟩
theorem fe_Se_37 {p : Program} {s : State} {m : MethodId} {args : Array Value} {c : Code} {cc : ByteArray} {nL : Nat} {w0 : Cond} {g : hw_G} {A : Nat → Prop} (X : hw_X p m c cc nL s args (w0 :: hw_all) "ProofCourt$Search" g A) : hw_F s args (w0 :: hw_all) "ProofCourt$Search" 37 5 3 := ⟨"ProofCourt$Clause", ft_Cl, 4, "ProofCourt$Clause", rfl, by decide, fun w h => List.mem_cons_of_mem _ (uw_Cl w h), Or.inr ⟨"ProofCourt", va_Nw.use rfl (X.2.2.2.1 _ (hw_nest_at 29 rfl))⟩, fun _ h => h⟩
theorem fe_Se_34 {p : Program} {s : State} {m : MethodId} {args : Array Value} {c : Code} {cc : ByteArray} {nL : Nat} {w0 : Cond} {g : hw_G} {A : Nat → Prop} (X : hw_X p m c cc nL s args (w0 :: hw_all) "ProofCourt$Search" g A) : hw_F s args (w0 :: hw_all) "ProofCourt$Search" 34 3 1 := ⟨"ProofCourt$Formula", ft_Fo, 4, "ProofCourt$Formula", rfl, by decide, fun w h => List.mem_cons_of_mem _ (uw_Fo w h), Or.inr ⟨"ProofCourt", va_Nw.use rfl (X.2.2.2.1 _ (hw_nest_at 17 rfl))⟩, fun _ h => h⟩
theorem fe_Se_9 {p : Program} {s : State} {m : MethodId} {args : Array Value} {c : Code} {cc : ByteArray} {nL : Nat} {w0 : Cond} {g : hw_G} {A : Nat → Prop} (X : hw_X p m c cc nL s args (w0 :: hw_all) "ProofCourt$Search" g A) : hw_F s args (w0 :: hw_all) "ProofCourt$Search" 9 2 0 := ⟨"ProofCourt$Search", ft_Se, 15, "ProofCourt$Search", rfl, by decide, fun w h => List.mem_cons_of_mem _ (uw_Se w h), Or.inl (X.1.2.2.2.2 _ (List.mem_cons_of_mem _ tw_131)), fun _ h => h⟩
theorem fe_Se_33 {p : Program} {s : State} {m : MethodId} {args : Array Value} {c : Code} {cc : ByteArray} {nL : Nat} {w0 : Cond} {g : hw_G} {A : Nat → Prop} (X : hw_X p m c cc nL s args (w0 :: hw_all) "ProofCourt$Search" g A) : hw_F s args (w0 :: hw_all) "ProofCourt$Search" 33 2 1 := ⟨"ProofCourt$Search", ft_Se, 15, "ProofCourt$Search", rfl, by decide, fun w h => List.mem_cons_of_mem _ (uw_Se w h), Or.inl (X.1.2.2.2.2 _ (List.mem_cons_of_mem _ tw_132)), fun _ h => h⟩
theorem ye_Co_133 {p : Program} {s : State} {m : MethodId} {args : Array Value} {c : Code} {cc : ByteArray} {nL : Nat} {w0 : Cond} {g : hw_G} {A : Nat → Prop} (X : hw_X p m c cc nL s args (w0 :: hw_all) "ProofCourt" g A) : hw_YV s args "ProofCourt" 133 "ProofCourt$Search" ym_Se_begin cb_Se_begin 3 none (mw_Se_begin) 1 := fun R rm h1 h2 => Or.inl (cwV 1 X.1.2.2.2.2 (hw_gV tw_216 tw_217 tw_218 tw_51 tw_219) rfl rfl rfl (by decide +kernel) ⟨h1, h2⟩)
theorem fe_Co_26 {p : Program} {s : State} {m : MethodId} {args : Array Value} {c : Code} {cc : ByteArray} {nL : Nat} {w0 : Cond} {g : hw_G} {A : Nat → Prop} (X : hw_X p m c cc nL s args (w0 :: hw_all) "ProofCourt" g A) : hw_F s args (w0 :: hw_all) "ProofCourt" 26 4 2 := ⟨"ProofCourt", ft_Co, 4, "ProofCourt", rfl, by decide, fun w h => List.mem_cons_of_mem _ (uw_Co w h), Or.inl (X.1.2.2.2.2 _ (List.mem_cons_of_mem _ tw_222)), fun _ h => h⟩
theorem ye_Co_130 {p : Program} {s : State} {m : MethodId} {args : Array Value} {c : Code} {cc : ByteArray} {nL : Nat} {w0 : Cond} {g : hw_G} {A : Nat → Prop} (X : hw_X p m c cc nL s args (w0 :: hw_all) "ProofCourt" g A) : hw_YV s args "ProofCourt" 130 "ProofCourt$Proof" ym_Pr_begin cb_Pr_begin 3 none (mw_Pr_begin) 1 := fun R rm h1 h2 => Or.inl (cwV 1 X.1.2.2.2.2 (hw_gV tw_212 tw_213 tw_214 tw_50 tw_215) rfl rfl rfl (by decide +kernel) ⟨h1, h2⟩)
theorem fe_Co_19 {p : Program} {s : State} {m : MethodId} {args : Array Value} {c : Code} {cc : ByteArray} {nL : Nat} {w0 : Cond} {g : hw_G} {A : Nat → Prop} (X : hw_X p m c cc nL s args (w0 :: hw_all) "ProofCourt" g A) : hw_F s args (w0 :: hw_all) "ProofCourt" 19 4 1 := ⟨"ProofCourt", ft_Co, 4, "ProofCourt", rfl, by decide, fun w h => List.mem_cons_of_mem _ (uw_Co w h), Or.inl (X.1.2.2.2.2 _ (List.mem_cons_of_mem _ tw_221)), fun _ h => h⟩
theorem fp_Co_57 {p : Program} {s : State} {m : MethodId} {args : Array Value} {c : Code} {cc : ByteArray} {nL : Nat} {w0 : Cond} {g : hw_G} {A : Nat → Prop} (X : hw_X p m c cc nL s args (w0 :: hw_all) "ProofCourt" g A) : hw_FP s args (w0 :: hw_all) "ProofCourt" 57 4 3 (.object "ProofCourt$Formula") := ⟨"ProofCourt", ft_Co, 4, "ProofCourt", fy_Co, rfl, by decide, fun w h => List.mem_cons_of_mem _ (uw_Co w h), Or.inl (X.1.2.2.2.2 _ (List.mem_cons_of_mem _ tw_223)), fun _ h => h, fz_Co, fn_Co, rfl, by decide +kernel⟩
theorem oi_Co_3 {p : Program} {s : State} {m : MethodId} {args : Array Value} {c : Code} {cc : ByteArray} {nL : Nat} {w0 : Cond} {g : hw_G} {A : Nat → Prop} (X : hw_X p m c cc nL s args (w0 :: hw_all) "ProofCourt" g A) : (Cond.methodLink "ProofCourt" 3 Lib.objectInit).before args s = true := (X.1.2.2.2.2 _ (List.mem_cons_of_mem _ tw_67))
theorem oj_Co {p : Program} {s : State} {m : MethodId} {args : Array Value} {c : Code} {cc : ByteArray} {nL : Nat} {w0 : Cond} {g : hw_G} {A : Nat → Prop} (X : hw_X p m c cc nL s args (w0 :: hw_all) "ProofCourt" g A) : (Cond.instanceMethod Lib.objectInit).before args s = true := (X.1.2.2.2.2 _ (List.mem_cons_of_mem _ tw_68))
theorem ok_Co {p : Program} {s : State} {m : MethodId} {args : Array Value} {c : Code} {cc : ByteArray} {nL : Nat} {w0 : Cond} {g : hw_G} {A : Nat → Prop} (X : hw_X p m c cc nL s args (w0 :: hw_all) "ProofCourt" g A) : (Cond.code Lib.objectInit ⟨#[0xb1]⟩ 1 none).before args s = true := (X.1.2.2.2.2 _ (List.mem_cons_of_mem _ tw_69))
theorem ye_Co_35 {p : Program} {s : State} {m : MethodId} {args : Array Value} {c : Code} {cc : ByteArray} {nL : Nat} {w0 : Cond} {g : hw_G} {A : Nat → Prop} (X : hw_X p m c cc nL s args (w0 :: hw_all) "ProofCourt" g A) : hw_YV s args "ProofCourt" 35 "ProofCourt" ym_Co_take cb_Co_take 2 none (mw_Co_take) 1 := fun R rm h1 h2 => Or.inl (cwV 1 X.1.2.2.2.2 (hw_gV tw_208 tw_210 tw_0 tw_48 tw_211) rfl rfl rfl (by decide +kernel) ⟨h1, h2⟩)
theorem ye_Co_32 {p : Program} {s : State} {m : MethodId} {args : Array Value} {c : Code} {cc : ByteArray} {nL : Nat} {w0 : Cond} {g : hw_G} {A : Nat → Prop} (X : hw_X p m c cc nL s args (w0 :: hw_all) "ProofCourt" g A) : hw_YI s args "ProofCourt" 32 ym_Fo_init cb_Fo_init 2 (mw_Fo_init) 1 := fun R rm h1 h2 => Or.inl (cwI 1 X.1.2.2.2.2 (hw_g0 tw_185) rfl rfl rfl (X.1.2.2.2.2 _ (List.mem_cons_of_mem _ tw_52)) (X.1.2.2.2.2 _ (List.mem_cons_of_mem _ tw_183)) (X.1.2.2.2.2 _ (List.mem_cons_of_mem _ tw_184)) rfl (by decide +kernel) ⟨h1, h2⟩)
theorem ne_Co_30 {p : Program} {s : State} {m : MethodId} {args : Array Value} {c : Code} {cc : ByteArray} {nL : Nat} {w0 : Cond} {g : hw_G} {A : Nat → Prop} (X : hw_X p m c cc nL s args (w0 :: hw_all) "ProofCourt" g A) : hw_N s args (w0 :: hw_all) "ProofCourt" 30 3 4 [.int 0, .null, .int 0, .int 0] := ⟨"ProofCourt$Formula", ft_Fo, fy_Fo, rfl, fun w h => List.mem_cons_of_mem _ (uw_Fo w h), fz_Fo, (X.1.2.2.2.2 _ (List.mem_cons_of_mem _ tw_181)), (X.1.2.2.2.2 _ (List.mem_cons_of_mem _ tw_182)), (X.1.2.2.2.2 _ (List.mem_cons_of_mem _ tw_52)), fun j hj => by rcases (show j = 0 ∨ j = 1 ∨ j = 2 ∨ j = 3 by omega) with rfl | rfl | rfl | rfl <;> rfl⟩
theorem ff_Co_26 {p : Program} {s : State} {m : MethodId} {args : Array Value} {c : Code} {cc : ByteArray} {nL : Nat} {w0 : Cond} {g : hw_G} {A : Nat → Prop} (X : hw_X p m c cc nL s args (w0 :: hw_all) "ProofCourt" g A) : hw_FF s args (w0 :: hw_all) "ProofCourt" 26 4 2 (.object "ProofCourt$Search") := ⟨"ProofCourt", ft_Co, 4, "ProofCourt", fy_Co, rfl, by decide, fun w h => List.mem_cons_of_mem _ (uw_Co w h), (X.1.2.2.2.2 _ (List.mem_cons_of_mem _ tw_222)), fun _ h => h, fz_Co, fn_Co, rfl, rfl, by decide +kernel⟩
theorem ye_Co_25 {p : Program} {s : State} {m : MethodId} {args : Array Value} {c : Code} {cc : ByteArray} {nL : Nat} {w0 : Cond} {g : hw_G} {A : Nat → Prop} (X : hw_X p m c cc nL s args (w0 :: hw_all) "ProofCourt" g A) : hw_YI s args "ProofCourt" 25 ym_Se_init cb_Se_init 1 (mw_Se_init) 0 := fun R rm h1 h2 => Or.inr ⟨"ProofCourt", va_cnB 0 X.1.2.2.2.2 (hw_g0 tw_129) rfl rfl rfl (X.2.2.2.1 _ (hw_nest_at 10 rfl)) (X.1.2.2.2.2 _ (List.mem_cons_of_mem _ tw_51)) (by decide +kernel) ⟨h1, h2⟩, rfl, (X.1.2.2.2.2 _ (List.mem_cons_of_mem _ tw_128))⟩
theorem ne_Co_23 {p : Program} {s : State} {m : MethodId} {args : Array Value} {c : Code} {cc : ByteArray} {nL : Nat} {w0 : Cond} {g : hw_G} {A : Nat → Prop} (X : hw_X p m c cc nL s args (w0 :: hw_all) "ProofCourt" g A) : hw_N s args (w0 :: hw_all) "ProofCourt" 23 2 15 [.null, .int 0, .int 0, .int 0, .int 0, .int 0, .int 0, .int 0, .null, .null, .int 0, .null, .int 0, .null, .int 0] := ⟨"ProofCourt$Search", ft_Se, fy_Se, rfl, fun w h => List.mem_cons_of_mem _ (uw_Se w h), fz_Se, (X.1.2.2.2.2 _ (List.mem_cons_of_mem _ tw_125)), (X.1.2.2.2.2 _ (List.mem_cons_of_mem _ tw_126)), (X.1.2.2.2.2 _ (List.mem_cons_of_mem _ tw_51)), fun j hj => by rcases (show j = 0 ∨ j = 1 ∨ j = 2 ∨ j = 3 ∨ j = 4 ∨ j = 5 ∨ j = 6 ∨ j = 7 ∨ j = 8 ∨ j = 9 ∨ j = 10 ∨ j = 11 ∨ j = 12 ∨ j = 13 ∨ j = 14 by omega) with rfl | rfl | rfl | rfl | rfl | rfl | rfl | rfl | rfl | rfl | rfl | rfl | rfl | rfl | rfl <;> rfl⟩
theorem ff_Co_19 {p : Program} {s : State} {m : MethodId} {args : Array Value} {c : Code} {cc : ByteArray} {nL : Nat} {w0 : Cond} {g : hw_G} {A : Nat → Prop} (X : hw_X p m c cc nL s args (w0 :: hw_all) "ProofCourt" g A) : hw_FF s args (w0 :: hw_all) "ProofCourt" 19 4 1 (.object "ProofCourt$Proof") := ⟨"ProofCourt", ft_Co, 4, "ProofCourt", fy_Co, rfl, by decide, fun w h => List.mem_cons_of_mem _ (uw_Co w h), (X.1.2.2.2.2 _ (List.mem_cons_of_mem _ tw_221)), fun _ h => h, fz_Co, fn_Co, rfl, rfl, by decide +kernel⟩
theorem ye_Co_18 {p : Program} {s : State} {m : MethodId} {args : Array Value} {c : Code} {cc : ByteArray} {nL : Nat} {w0 : Cond} {g : hw_G} {A : Nat → Prop} (X : hw_X p m c cc nL s args (w0 :: hw_all) "ProofCourt" g A) : hw_YI s args "ProofCourt" 18 ym_Pr_init cb_Pr_init 1 (mw_Pr_init) 0 := fun R rm h1 h2 => Or.inr ⟨"ProofCourt", va_cnB 0 X.1.2.2.2.2 (hw_g0 tw_104) rfl rfl rfl (X.2.2.2.1 _ (hw_nest_at 5 rfl)) (X.1.2.2.2.2 _ (List.mem_cons_of_mem _ tw_50)) (by decide +kernel) ⟨h1, h2⟩, rfl, (X.1.2.2.2.2 _ (List.mem_cons_of_mem _ tw_103))⟩
theorem ne_Co_16 {p : Program} {s : State} {m : MethodId} {args : Array Value} {c : Code} {cc : ByteArray} {nL : Nat} {w0 : Cond} {g : hw_G} {A : Nat → Prop} (X : hw_X p m c cc nL s args (w0 :: hw_all) "ProofCourt" g A) : hw_N s args (w0 :: hw_all) "ProofCourt" 16 1 4 [.null, .int 0, .int 0, .int 0] := ⟨"ProofCourt$Proof", ft_Pr, fy_Pr, rfl, fun w h => List.mem_cons_of_mem _ (uw_Pr w h), fz_Pr, (X.1.2.2.2.2 _ (List.mem_cons_of_mem _ tw_100)), (X.1.2.2.2.2 _ (List.mem_cons_of_mem _ tw_101)), (X.1.2.2.2.2 _ (List.mem_cons_of_mem _ tw_50)), fun j hj => by rcases (show j = 0 ∨ j = 1 ∨ j = 2 ∨ j = 3 by omega) with rfl | rfl | rfl | rfl <;> rfl⟩
theorem ff_Co_12 {p : Program} {s : State} {m : MethodId} {args : Array Value} {c : Code} {cc : ByteArray} {nL : Nat} {w0 : Cond} {g : hw_G} {A : Nat → Prop} (X : hw_X p m c cc nL s args (w0 :: hw_all) "ProofCourt" g A) : hw_FF s args (w0 :: hw_all) "ProofCourt" 12 4 0 (.object "ProofCourt$Text") := ⟨"ProofCourt", ft_Co, 4, "ProofCourt", fy_Co, rfl, by decide, fun w h => List.mem_cons_of_mem _ (uw_Co w h), (X.1.2.2.2.2 _ (List.mem_cons_of_mem _ tw_220)), fun _ h => h, fz_Co, fn_Co, rfl, rfl, by decide +kernel⟩
theorem ye_Co_11 {p : Program} {s : State} {m : MethodId} {args : Array Value} {c : Code} {cc : ByteArray} {nL : Nat} {w0 : Cond} {g : hw_G} {A : Nat → Prop} (X : hw_X p m c cc nL s args (w0 :: hw_all) "ProofCourt" g A) : hw_YI s args "ProofCourt" 11 ym_Te_init cb_Te_init 1 (mw_Te_init) 0 := fun R rm h1 h2 => Or.inr ⟨"ProofCourt", va_cnB 0 X.1.2.2.2.2 (hw_g0 tw_74) rfl rfl rfl (X.2.2.2.1 _ (hw_nest_at 0 rfl)) (X.1.2.2.2.2 _ (List.mem_cons_of_mem _ tw_49)) (by decide +kernel) ⟨h1, h2⟩, rfl, (X.1.2.2.2.2 _ (List.mem_cons_of_mem _ tw_73))⟩
theorem ne_Co_9 {p : Program} {s : State} {m : MethodId} {args : Array Value} {c : Code} {cc : ByteArray} {nL : Nat} {w0 : Cond} {g : hw_G} {A : Nat → Prop} (X : hw_X p m c cc nL s args (w0 :: hw_all) "ProofCourt" g A) : hw_N s args (w0 :: hw_all) "ProofCourt" 9 0 6 [.null, .int 0, .int 0, .int 0, .int 0, .int 0] := ⟨"ProofCourt$Text", ft_Te, fy_Te, rfl, fun w h => List.mem_cons_of_mem _ (uw_Te w h), fz_Te, (X.1.2.2.2.2 _ (List.mem_cons_of_mem _ tw_70)), (X.1.2.2.2.2 _ (List.mem_cons_of_mem _ tw_71)), (X.1.2.2.2.2 _ (List.mem_cons_of_mem _ tw_49)), fun j hj => by rcases (show j = 0 ∨ j = 1 ∨ j = 2 ∨ j = 3 ∨ j = 4 ∨ j = 5 by omega) with rfl | rfl | rfl | rfl | rfl | rfl <;> rfl⟩
theorem ye_Co_39 {p : Program} {s : State} {m : MethodId} {args : Array Value} {c : Code} {cc : ByteArray} {nL : Nat} {w0 : Cond} {g : hw_G} {A : Nat → Prop} (X : hw_X p m c cc nL s args (w0 :: hw_all) "ProofCourt" g A) : hw_YV s args "ProofCourt" 39 "ProofCourt$Text" ym_Te_append cb_Te_append 4 (some .boolean) (mw_Te_append) 2 := fun R rm h1 h2 => Or.inl (cwV 2 X.1.2.2.2.2 (hw_gV tw_237 tw_238 tw_239 tw_49 tw_240) rfl rfl rfl (by decide +kernel) ⟨h1, h2⟩)
theorem fe_Co_12 {p : Program} {s : State} {m : MethodId} {args : Array Value} {c : Code} {cc : ByteArray} {nL : Nat} {w0 : Cond} {g : hw_G} {A : Nat → Prop} (X : hw_X p m c cc nL s args (w0 :: hw_all) "ProofCourt" g A) : hw_F s args (w0 :: hw_all) "ProofCourt" 12 4 0 := ⟨"ProofCourt", ft_Co, 4, "ProofCourt", rfl, by decide, fun w h => List.mem_cons_of_mem _ (uw_Co w h), Or.inl (X.1.2.2.2.2 _ (List.mem_cons_of_mem _ tw_220)), fun _ h => h⟩
end
section
section
variable {p : Program} {l : Launch} {e : Env} {R : Room} {s : State} {m : MethodId} {args : Array Value} {below : List Frame} {meth : Method} {c : Code} {Q : State → Prop} {g : hw_G} {A : Nat → Prop} {k n : Nat} {w : hw_H}
def vc_Te_byteOf_0 (l : Launch) (g : hw_G) (R : Room) (K : Nat → Nat → Nat → List (Option Value) → List Value → hw_H → Prop) (PR : Nat → Nat → Int32 → hw_H → Prop) (k n : Nat) (x0 : Int32) (x1 : Int32) (w : hw_H) : Prop := PR k n ((x0 >>> (((8 : Int32) * x1) &&& 31)) &&& (255 : Int32)) w
set_option maxHeartbeats 4000000 in
set_option maxRecDepth 100000 in
theorem sg_Te_byteOf_0 (X : hw_X p m c cb_Te_byteOf 2 s args (mw_Te_byteOf) "ProofCourt$Text" g A) {K : Nat → Nat → Nat → List (Option Value) → List Value → hw_H → Prop} {PR : Nat → Nat → Int32 → hw_H → Prop} (hK : ∀ (k n pc : Nat) (lv : List (Option Value)) (st : List Value) (w : hw_H), K k n pc lv st w → hw_J p l e R s m args below meth c Q 2 g A k n pc lv st w) (rt : ∀ {k n pc : Nat} {lv : List (Option Value)} {x : Int32} {w : hw_H}, decode cb_Te_byteOf pc = .ok (.ireturn, 1) → PR k n x w → hw_J p l e R s m args below meth c Q 2 g A k n pc lv [.int x] w) {x0 : Int32} {x1 : Int32} (vc : vc_Te_byteOf_0 l g R K PR k n x0 x1 w) : hw_J p l e R s m args below meth c Q 2 g A k n 0 [some (.int x0), some (.int x1)] [] w := by
  unfold vc_Te_byteOf_0 at vc
  refine hw_iload_n X dd_Te_byteOf_0 rfl ?_
  refine hw_bipush X (v := 8) dd_Te_byteOf_1 (by decide) ?_
  refine hw_iload_n X dd_Te_byteOf_3 rfl ?_
  refine hw_imul X dd_Te_byteOf_4 ?_
  refine hw_ishr X dd_Te_byteOf_5 ?_
  refine hw_sipush X (v := 255) dd_Te_byteOf_6 (by decide) ?_
  refine hw_iand X dd_Te_byteOf_9 ?_
  exact rt dd_Te_byteOf_10 vc
end
section
variable {p : Program} {l : Launch} {e : Env} {R : Room} {s : State} {m : MethodId} {args : Array Value} {below : List Frame} {meth : Method} {c : Code} {Q : State → Prop} {g : hw_G} {A : Nat → Prop} {k n : Nat} {w : hw_H}
def vc_Te_isCharacter_0 (l : Launch) (g : hw_G) (R : Room) (K : Nat → Nat → Nat → List (Option Value) → List Value → hw_H → Prop) (PR : Nat → Nat → Int32 → hw_H → Prop) (k n : Nat) (x0 : Int32) (w : hw_H) : Prop := ((x0 = (10 : Int32)) → (PR k n (1 : Int32) w)) ∧ ((¬ x0 = (10 : Int32)) → (((x0 < (32 : Int32)) → (PR k n (0 : Int32) w)) ∧ ((¬ x0 < (32 : Int32)) → ((((126 : Int32) < x0) → (PR k n (0 : Int32) w)) ∧ ((¬ (126 : Int32) < x0) → (PR k n (1 : Int32) w))))))
set_option maxHeartbeats 4000000 in
set_option maxRecDepth 100000 in
theorem sg_Te_isCharacter_0 (X : hw_X p m c cb_Te_isCharacter 1 s args (mw_Te_isCharacter) "ProofCourt$Text" g A) {K : Nat → Nat → Nat → List (Option Value) → List Value → hw_H → Prop} {PR : Nat → Nat → Int32 → hw_H → Prop} (hK : ∀ (k n pc : Nat) (lv : List (Option Value)) (st : List Value) (w : hw_H), K k n pc lv st w → hw_J p l e R s m args below meth c Q 1 g A k n pc lv st w) (rt : ∀ {k n pc : Nat} {lv : List (Option Value)} {x : Int32} {w : hw_H}, decode cb_Te_isCharacter pc = .ok (.ireturn, 1) → PR k n x w → hw_J p l e R s m args below meth c Q 1 g A k n pc lv [.int x] w) {x0 : Int32} (vc : vc_Te_isCharacter_0 l g R K PR k n x0 w) : hw_J p l e R s m args below meth c Q 1 g A k n 0 [some (.int x0)] [] w := by
  unfold vc_Te_isCharacter_0 at vc
  refine hw_iload_n X dd_Te_isCharacter_0 rfl ?_
  refine hw_bipush X (v := 10) dd_Te_isCharacter_1 (by decide) ?_
  refine hw_icmp_eq X (tgt := 18) dd_Te_isCharacter_3 rfl (fun hc => ?_) (fun hc => ?_)
  · have vc := vc.1 hc
    refine hw_iconst X (v := 1) dd_Te_isCharacter_18 (by decide) ?_
    refine hw_goto X (tgt := 23) dd_Te_isCharacter_19 rfl ?_
    exact rt dd_Te_isCharacter_23 vc
  · have vc := vc.2 hc
    refine hw_iload_n X dd_Te_isCharacter_6 rfl ?_
    refine hw_bipush X (v := 32) dd_Te_isCharacter_7 (by decide) ?_
    refine hw_icmp_lt X (tgt := 22) dd_Te_isCharacter_9 rfl (fun hc => ?_) (fun hc => ?_)
    · have vc := vc.1 hc
      refine hw_iconst X (v := 0) dd_Te_isCharacter_22 (by decide) ?_
      exact rt dd_Te_isCharacter_23 vc
    · have vc := vc.2 hc
      refine hw_iload_n X dd_Te_isCharacter_12 rfl ?_
      refine hw_bipush X (v := 126) dd_Te_isCharacter_13 (by decide) ?_
      refine hw_icmp_gt X (tgt := 22) dd_Te_isCharacter_15 rfl (fun hc => ?_) (fun hc => ?_)
      · have vc := vc.1 hc
        refine hw_iconst X (v := 0) dd_Te_isCharacter_22 (by decide) ?_
        exact rt dd_Te_isCharacter_23 vc
      · have vc := vc.2 hc
        refine hw_iconst X (v := 1) dd_Te_isCharacter_18 (by decide) ?_
        refine hw_goto X (tgt := 23) dd_Te_isCharacter_19 rfl ?_
        exact rt dd_Te_isCharacter_23 vc
end
section
variable {p : Program} {l : Launch} {e : Env} {R : Room} {s : State} {m : MethodId} {args : Array Value} {below : List Frame} {meth : Method} {c : Code} {Q : State → Prop} {g : hw_G} {A : Nat → Prop} {k n : Nat} {w : hw_H}
def vc_Te_isBlank_0 (l : Launch) (g : hw_G) (R : Room) (K : Nat → Nat → Nat → List (Option Value) → List Value → hw_H → Prop) (PR : Nat → Nat → Int32 → hw_H → Prop) (k n : Nat) (x0 : Int32) (w : hw_H) : Prop := ((x0 = (32 : Int32)) → (PR k n (1 : Int32) w)) ∧ ((¬ x0 = (32 : Int32)) → (((¬ x0 = (10 : Int32)) → (PR k n (0 : Int32) w)) ∧ ((x0 = (10 : Int32)) → (PR k n (1 : Int32) w))))
set_option maxHeartbeats 4000000 in
set_option maxRecDepth 100000 in
theorem sg_Te_isBlank_0 (X : hw_X p m c cb_Te_isBlank 1 s args (mw_Te_isBlank) "ProofCourt$Text" g A) {K : Nat → Nat → Nat → List (Option Value) → List Value → hw_H → Prop} {PR : Nat → Nat → Int32 → hw_H → Prop} (hK : ∀ (k n pc : Nat) (lv : List (Option Value)) (st : List Value) (w : hw_H), K k n pc lv st w → hw_J p l e R s m args below meth c Q 1 g A k n pc lv st w) (rt : ∀ {k n pc : Nat} {lv : List (Option Value)} {x : Int32} {w : hw_H}, decode cb_Te_isBlank pc = .ok (.ireturn, 1) → PR k n x w → hw_J p l e R s m args below meth c Q 1 g A k n pc lv [.int x] w) {x0 : Int32} (vc : vc_Te_isBlank_0 l g R K PR k n x0 w) : hw_J p l e R s m args below meth c Q 1 g A k n 0 [some (.int x0)] [] w := by
  unfold vc_Te_isBlank_0 at vc
  refine hw_iload_n X dd_Te_isBlank_0 rfl ?_
  refine hw_bipush X (v := 32) dd_Te_isBlank_1 (by decide) ?_
  refine hw_icmp_eq X (tgt := 12) dd_Te_isBlank_3 rfl (fun hc => ?_) (fun hc => ?_)
  · have vc := vc.1 hc
    refine hw_iconst X (v := 1) dd_Te_isBlank_12 (by decide) ?_
    refine hw_goto X (tgt := 17) dd_Te_isBlank_13 rfl ?_
    exact rt dd_Te_isBlank_17 vc
  · have vc := vc.2 hc
    refine hw_iload_n X dd_Te_isBlank_6 rfl ?_
    refine hw_bipush X (v := 10) dd_Te_isBlank_7 (by decide) ?_
    refine hw_icmp_ne X (tgt := 16) dd_Te_isBlank_9 rfl (fun hc => ?_) (fun hc => ?_)
    · have vc := vc.1 hc
      refine hw_iconst X (v := 0) dd_Te_isBlank_16 (by decide) ?_
      exact rt dd_Te_isBlank_17 vc
    · have vc := vc.2 hc
      refine hw_iconst X (v := 1) dd_Te_isBlank_12 (by decide) ?_
      refine hw_goto X (tgt := 17) dd_Te_isBlank_13 rfl ?_
      exact rt dd_Te_isBlank_17 vc
end
section
variable {p : Program} {l : Launch} {e : Env} {R : Room} {s : State} {m : MethodId} {args : Array Value} {below : List Frame} {meth : Method} {c : Code} {Q : State → Prop} {g : hw_G} {A : Nat → Prop} {k n : Nat} {w : hw_H}
def vc_Te_append_0 (l : Launch) (g : hw_G) (R : Room) (K : Nat → Nat → Nat → List (Option Value) → List Value → hw_H → Prop) (PR : Nat → Nat → Int32 → hw_H → Prop) (k n : Nat) (a0 : Nat) (x1 : Int32) (x2 : Int32) (w : hw_H) : Prop := ((x2 < (1 : Int32)) → (PR k n (0 : Int32) w)) ∧ ((¬ x2 < (1 : Int32)) → ((((4 : Int32) < x2) → (PR k n (0 : Int32) w)) ∧ ((¬ (4 : Int32) < x2) → (∃ x_1 : Int32, hw_g w a0 0 1 (.int x_1) ∧ ((((x_1 + x2) ≤ (160 : Int32)) → (∀ y2 : Int32, y2 = (x2 - (1 : Int32)) → (K k n 28 [some (.ref a0), some (.int x1), some (.int x2), some (.int y2)] [] w))) ∧ ((¬ (x_1 + x2) ≤ (160 : Int32)) → (PR k n (0 : Int32) w)))))))
set_option maxHeartbeats 4000000 in
set_option maxRecDepth 100000 in
theorem sg_Te_append_0 (X : hw_X p m c cb_Te_append 4 s args (mw_Te_append) "ProofCourt$Text" g A) {K : Nat → Nat → Nat → List (Option Value) → List Value → hw_H → Prop} {PR : Nat → Nat → Int32 → hw_H → Prop} (hK : ∀ (k n pc : Nat) (lv : List (Option Value)) (st : List Value) (w : hw_H), K k n pc lv st w → hw_J p l e R s m args below meth c Q 4 g A k n pc lv st w) (rt : ∀ {k n pc : Nat} {lv : List (Option Value)} {x : Int32} {w : hw_H}, decode cb_Te_append pc = .ok (.ireturn, 1) → PR k n x w → hw_J p l e R s m args below meth c Q 4 g A k n pc lv [.int x] w) {a0 : Nat} {x1 : Int32} {x2 : Int32} (vc : vc_Te_append_0 l g R K PR k n a0 x1 x2 w) : hw_J p l e R s m args below meth c Q 4 g A k n 0 [some (.ref a0), some (.int x1), some (.int x2), none] [] w := by
  unfold vc_Te_append_0 at vc
  refine hw_iload_n X dd_Te_append_0 rfl ?_
  refine hw_iconst X (v := 1) dd_Te_append_1 (by decide) ?_
  refine hw_icmp_lt X (tgt := 22) dd_Te_append_2 rfl (fun hc => ?_) (fun hc => ?_)
  · have vc := vc.1 hc
    refine hw_iconst X (v := 0) dd_Te_append_22 (by decide) ?_
    exact rt dd_Te_append_23 vc
  · have vc := vc.2 hc
    refine hw_iload_n X dd_Te_append_5 rfl ?_
    refine hw_iconst X (v := 4) dd_Te_append_6 (by decide) ?_
    refine hw_icmp_gt X (tgt := 22) dd_Te_append_7 rfl (fun hc => ?_) (fun hc => ?_)
    · have vc := vc.1 hc
      refine hw_iconst X (v := 0) dd_Te_append_22 (by decide) ?_
      exact rt dd_Te_append_23 vc
    · have vc := vc.2 hc
      refine hw_aload_n X (Or.inr ⟨_, rfl⟩) dd_Te_append_10 rfl ?_
      obtain ⟨x_1, h9, vc⟩ := vc
      refine hw_get X (fe_Te_15 X) h9 dd_Te_append_11 ?_
      refine hw_iload_n X dd_Te_append_14 rfl ?_
      refine hw_iadd X dd_Te_append_15 ?_
      refine hw_sipush X (v := 160) dd_Te_append_16 (by decide) ?_
      refine hw_icmp_le X (tgt := 24) dd_Te_append_19 rfl (fun hc => ?_) (fun hc => ?_)
      · have vc := vc.1 hc
        refine hw_iload_n X dd_Te_append_24 rfl ?_
        refine hw_iconst X (v := 1) dd_Te_append_25 (by decide) ?_
        refine hw_isub X dd_Te_append_26 ?_
        refine hw_top (fun y2 ey2 => ?_)
        have vc := vc y2 ey2
        refine hw_istore_n X dd_Te_append_27 (by decide) rfl ?_
        exact hK _ _ _ _ _ _ vc
      · have vc := vc.2 hc
        refine hw_iconst X (v := 0) dd_Te_append_22 (by decide) ?_
        exact rt dd_Te_append_23 vc
def vc_Te_append_28 (l : Launch) (g : hw_G) (R : Room) (K : Nat → Nat → Nat → List (Option Value) → List Value → hw_H → Prop) (PR : Nat → Nat → Int32 → hw_H → Prop) (k n : Nat) (a0 : Nat) (x1 : Int32) (x2 : Int32) (x3 : Int32) (w : hw_H) : Prop := ((x3 < 0) → (∀ y1 : Int32, y1 = (x2 - (1 : Int32)) → (K k n 55 [some (.ref a0), some (.int x1), some (.int x2), some (.int y1)] [] w))) ∧ ((¬ x3 < 0) → (hw_ci l g R k n ym_Te_byteOf (mw_Te_byteOf) 2 [.int x1, .int x3] w (fun (k3 n4 : Nat) (x_5 : Int32) (w2 : hw_H) => hw_ci l g R k3 n4 ym_Te_isCharacter (mw_Te_isCharacter) 1 [.int x_5] w2 (fun (k7 n8 : Nat) (x_9 : Int32) (w6 : hw_H) => ((¬ x_9 = 0) → (K k7 n8 28 [some (.ref a0), some (.int x1), some (.int x2), some (.int (x3 + (-1)))] [] w6)) ∧ ((x_9 = 0) → (PR k7 n8 (0 : Int32) w6))))))
set_option maxHeartbeats 4000000 in
set_option maxRecDepth 100000 in
theorem sg_Te_append_28 (X : hw_X p m c cb_Te_append 4 s args (mw_Te_append) "ProofCourt$Text" g A) {K : Nat → Nat → Nat → List (Option Value) → List Value → hw_H → Prop} {PR : Nat → Nat → Int32 → hw_H → Prop} (hK : ∀ (k n pc : Nat) (lv : List (Option Value)) (st : List Value) (w : hw_H), K k n pc lv st w → hw_J p l e R s m args below meth c Q 4 g A k n pc lv st w) (rt : ∀ {k n pc : Nat} {lv : List (Option Value)} {x : Int32} {w : hw_H}, decode cb_Te_append pc = .ok (.ireturn, 1) → PR k n x w → hw_J p l e R s m args below meth c Q 4 g A k n pc lv [.int x] w) {a0 : Nat} {x1 : Int32} {x2 : Int32} {x3 : Int32} (vc : vc_Te_append_28 l g R K PR k n a0 x1 x2 x3 w) : hw_J p l e R s m args below meth c Q 4 g A k n 28 [some (.ref a0), some (.int x1), some (.int x2), some (.int x3)] [] w := by
  unfold vc_Te_append_28 at vc
  refine hw_iload_n X dd_Te_append_28 rfl ?_
  refine hw_if_lt X (tgt := 51) dd_Te_append_29 rfl (fun hc => ?_) (fun hc => ?_)
  · have vc := vc.1 hc
    refine hw_iload_n X dd_Te_append_51 rfl ?_
    refine hw_iconst X (v := 1) dd_Te_append_52 (by decide) ?_
    refine hw_isub X dd_Te_append_53 ?_
    refine hw_top (fun y1 ey1 => ?_)
    have vc := vc y1 ey1
    refine hw_istore_n X dd_Te_append_54 (by decide) rfl ?_
    exact hK _ _ _ _ _ _ vc
  · have vc := vc.2 hc
    refine hw_iload_n X dd_Te_append_32 rfl ?_
    refine hw_iload_n X dd_Te_append_33 rfl ?_
    obtain ⟨rm9, po9, hM9, hf9, hc9, vc⟩ := vc
    refine hw_callSi X (As := [.int x1, .int x3]) (ye_Te_19 X) hM9 rfl hf9 hc9 (Nat.le_of_ble_eq_true rfl) rfl dd_Te_append_34 (fun x_5 w2 hp => ?_)
    have vc := vc x_5 w2 hp
    obtain ⟨rm9, po9, hM9, hf9, hc9, vc⟩ := vc
    refine hw_callSi X (As := [.int x_5]) (ye_Te_23 X) hM9 rfl hf9 hc9 (Nat.le_of_ble_eq_true rfl) rfl dd_Te_append_37 (fun x_9 w6 hp => ?_)
    have vc := vc x_9 w6 hp
    refine hw_if_ne X (tgt := 45) dd_Te_append_40 rfl (fun hc => ?_) (fun hc => ?_)
    · have vc := vc.1 hc
      refine hw_iinc X (v := (x3 + (-1))) dd_Te_append_45 rfl rfl (by decide) rfl ?_
      refine hw_goto X (tgt := 28) dd_Te_append_48 rfl ?_
      exact hK _ _ _ _ _ _ vc
    · have vc := vc.2 hc
      refine hw_iconst X (v := 0) dd_Te_append_43 (by decide) ?_
      exact rt dd_Te_append_44 vc
def vc_Te_append_55 (l : Launch) (g : hw_G) (R : Room) (K : Nat → Nat → Nat → List (Option Value) → List Value → hw_H → Prop) (PR : Nat → Nat → Int32 → hw_H → Prop) (k n : Nat) (a0 : Nat) (x1 : Int32) (x2 : Int32) (x3 : Int32) (w : hw_H) : Prop := ((x3 < 0) → (PR k n (1 : Int32) w)) ∧ ((¬ x3 < 0) → (∃ b_1 : Nat, hw_g w a0 0 0 (.ref b_1) ∧ (∃ x_2 : Int32, hw_g w a0 0 1 (.int x_2) ∧ (hw_ci l g R k n ym_Te_byteOf (mw_Te_byteOf) 2 [.int x1, .int x3] w (fun (k4 n5 : Nat) (x_6 : Int32) (w3 : hw_H) => ∃ w7 : hw_H, hw_as g 1 w3 b_1 x_2 (vp_nar .char (((x_6).toUInt32 % 65536).toInt32)) w7 ∧ (∃ x_8 : Int32, hw_g w7 a0 0 1 (.int x_8) ∧ (∃ w9 : hw_H, hw_p w7 a0 0 1 (.int (x_8 + (1 : Int32))) w9 ∧ (K k4 n5 55 [some (.ref a0), some (.int x1), some (.int x2), some (.int (x3 + (-1)))] [] w9))))))))
set_option maxHeartbeats 4000000 in
set_option maxRecDepth 100000 in
theorem sg_Te_append_55 (X : hw_X p m c cb_Te_append 4 s args (mw_Te_append) "ProofCourt$Text" g A) {K : Nat → Nat → Nat → List (Option Value) → List Value → hw_H → Prop} {PR : Nat → Nat → Int32 → hw_H → Prop} (hK : ∀ (k n pc : Nat) (lv : List (Option Value)) (st : List Value) (w : hw_H), K k n pc lv st w → hw_J p l e R s m args below meth c Q 4 g A k n pc lv st w) (rt : ∀ {k n pc : Nat} {lv : List (Option Value)} {x : Int32} {w : hw_H}, decode cb_Te_append pc = .ok (.ireturn, 1) → PR k n x w → hw_J p l e R s m args below meth c Q 4 g A k n pc lv [.int x] w) {a0 : Nat} {x1 : Int32} {x2 : Int32} {x3 : Int32} (vc : vc_Te_append_55 l g R K PR k n a0 x1 x2 x3 w) : hw_J p l e R s m args below meth c Q 4 g A k n 55 [some (.ref a0), some (.int x1), some (.int x2), some (.int x3)] [] w := by
  unfold vc_Te_append_55 at vc
  refine hw_iload_n X dd_Te_append_55 rfl ?_
  refine hw_if_lt X (tgt := 90) dd_Te_append_56 rfl (fun hc => ?_) (fun hc => ?_)
  · have vc := vc.1 hc
    refine hw_iconst X (v := 1) dd_Te_append_90 (by decide) ?_
    exact rt dd_Te_append_91 vc
  · have vc := vc.2 hc
    refine hw_aload_n X (Or.inr ⟨_, rfl⟩) dd_Te_append_59 rfl ?_
    obtain ⟨b_1, h9, vc⟩ := vc
    refine hw_get X (fe_Te_9 X) h9 dd_Te_append_60 ?_
    refine hw_aload_n X (Or.inr ⟨_, rfl⟩) dd_Te_append_63 rfl ?_
    obtain ⟨x_2, h9, vc⟩ := vc
    refine hw_get X (fe_Te_15 X) h9 dd_Te_append_64 ?_
    refine hw_iload_n X dd_Te_append_67 rfl ?_
    refine hw_iload_n X dd_Te_append_68 rfl ?_
    obtain ⟨rm9, po9, hM9, hf9, hc9, vc⟩ := vc
    refine hw_callSi X (As := [.int x1, .int x3]) (ye_Te_19 X) hM9 rfl hf9 hc9 (Nat.le_of_ble_eq_true rfl) rfl dd_Te_append_69 (fun x_6 w3 hp => ?_)
    have vc := vc x_6 w3 hp
    refine hw_i2c X dd_Te_append_72 ?_
    obtain ⟨w7, h9, vc⟩ := vc
    refine hw_cast X h9 dd_Te_append_73 ?_
    refine hw_aload_n X (Or.inr ⟨_, rfl⟩) dd_Te_append_74 rfl ?_
    refine hw_dup X rfl dd_Te_append_75 ?_
    obtain ⟨x_8, h9, vc⟩ := vc
    refine hw_get X (fe_Te_15 X) h9 dd_Te_append_76 ?_
    refine hw_iconst X (v := 1) dd_Te_append_79 (by decide) ?_
    refine hw_iadd X dd_Te_append_80 ?_
    obtain ⟨w9, h9, vc⟩ := vc
    refine hw_put X (fp_Te_15 X) rfl rfl h9 dd_Te_append_81 ?_
    refine hw_iinc X (v := (x3 + (-1))) dd_Te_append_84 rfl rfl (by decide) rfl ?_
    refine hw_goto X (tgt := 55) dd_Te_append_87 rfl ?_
    exact hK _ _ _ _ _ _ vc
end
section
variable {p : Program} {l : Launch} {e : Env} {R : Room} {s : State} {m : MethodId} {args : Array Value} {below : List Frame} {meth : Method} {c : Code} {Q : State → Prop} {g : hw_G} {A : Nat → Prop} {k n : Nat} {w : hw_H}
def vc_Te_clear_0 (l : Launch) (g : hw_G) (R : Room) (K : Nat → Nat → Nat → List (Option Value) → List Value → hw_H → Prop) (PR : Nat → Nat → hw_H → Prop) (k n : Nat) (a0 : Nat) (w : hw_H) : Prop := ∃ w1 : hw_H, hw_p w a0 0 1 (.int (0 : Int32)) w1 ∧ (PR k n w1)
set_option maxHeartbeats 4000000 in
set_option maxRecDepth 100000 in
theorem sg_Te_clear_0 (X : hw_X p m c cb_Te_clear 1 s args (mw_Te_clear) "ProofCourt$Text" g A) {K : Nat → Nat → Nat → List (Option Value) → List Value → hw_H → Prop} {PR : Nat → Nat → hw_H → Prop} (hK : ∀ (k n pc : Nat) (lv : List (Option Value)) (st : List Value) (w : hw_H), K k n pc lv st w → hw_J p l e R s m args below meth c Q 1 g A k n pc lv st w) (rt : ∀ {k n pc : Nat} {lv : List (Option Value)} {w : hw_H}, decode cb_Te_clear pc = .ok (.return_, 1) → PR k n w → hw_J p l e R s m args below meth c Q 1 g A k n pc lv [] w) {a0 : Nat} (vc : vc_Te_clear_0 l g R K PR k n a0 w) : hw_J p l e R s m args below meth c Q 1 g A k n 0 [some (.ref a0)] [] w := by
  unfold vc_Te_clear_0 at vc
  refine hw_aload_n X (Or.inr ⟨_, rfl⟩) dd_Te_clear_0 rfl ?_
  refine hw_iconst X (v := 0) dd_Te_clear_1 (by decide) ?_
  obtain ⟨w1, h9, vc⟩ := vc
  refine hw_put X (fp_Te_15 X) rfl rfl h9 dd_Te_clear_2 ?_
  exact rt dd_Te_clear_5 vc
end
section
variable {p : Program} {l : Launch} {e : Env} {R : Room} {s : State} {m : MethodId} {args : Array Value} {below : List Frame} {meth : Method} {c : Code} {Q : State → Prop} {g : hw_G} {A : Nat → Prop} {k n : Nat} {w : hw_H}
def vc_In_bitCount_0 (l : Launch) (g : hw_G) (R : Room) (K : Nat → Nat → Nat → List (Option Value) → List Value → hw_H → Prop) (PR : Nat → Nat → Int32 → hw_H → Prop) (k n : Nat) (x0 : Int32) (w : hw_H) : Prop := ∀ y1 : Int32, y1 = (x0 - (((x0).toUInt32 >>> (((1 : Int32)).toUInt32 &&& Int32.toUInt32 31)).toInt32 &&& (1431655765 : Int32))) → (∀ y2 : Int32, y2 = ((y1 &&& (858993459 : Int32)) + (((y1).toUInt32 >>> (((2 : Int32)).toUInt32 &&& Int32.toUInt32 31)).toInt32 &&& (858993459 : Int32))) → (∀ y3 : Int32, y3 = ((y2 + ((y2).toUInt32 >>> (((4 : Int32)).toUInt32 &&& Int32.toUInt32 31)).toInt32) &&& (252645135 : Int32)) → (∀ y4 : Int32, y4 = (y3 + ((y3).toUInt32 >>> (((8 : Int32)).toUInt32 &&& Int32.toUInt32 31)).toInt32) → (∀ y5 : Int32, y5 = (y4 + ((y4).toUInt32 >>> (((16 : Int32)).toUInt32 &&& Int32.toUInt32 31)).toInt32) → (PR k n (y5 &&& (63 : Int32)) w)))))
set_option maxHeartbeats 4000000 in
set_option maxRecDepth 100000 in
theorem sg_In_bitCount_0 (X : hw_X p m c cb_In_bitCount 1 s args (mw_In_bitCount) "java/lang/Integer" g A) {K : Nat → Nat → Nat → List (Option Value) → List Value → hw_H → Prop} {PR : Nat → Nat → Int32 → hw_H → Prop} (hK : ∀ (k n pc : Nat) (lv : List (Option Value)) (st : List Value) (w : hw_H), K k n pc lv st w → hw_J p l e R s m args below meth c Q 1 g A k n pc lv st w) (rt : ∀ {k n pc : Nat} {lv : List (Option Value)} {x : Int32} {w : hw_H}, decode cb_In_bitCount pc = .ok (.ireturn, 1) → PR k n x w → hw_J p l e R s m args below meth c Q 1 g A k n pc lv [.int x] w) {x0 : Int32} (vc : vc_In_bitCount_0 l g R K PR k n x0 w) : hw_J p l e R s m args below meth c Q 1 g A k n 0 [some (.int x0)] [] w := by
  unfold vc_In_bitCount_0 at vc
  refine hw_iload_n X dd_In_bitCount_0 rfl ?_
  refine hw_iload_n X dd_In_bitCount_1 rfl ?_
  refine hw_iconst X (v := 1) dd_In_bitCount_2 (by decide) ?_
  refine hw_iushr X rfl dd_In_bitCount_3 ?_
  refine hw_ldc_w X (kc_In_265 X) dd_In_bitCount_4 ?_
  refine hw_iand X dd_In_bitCount_7 ?_
  refine hw_isub X dd_In_bitCount_8 ?_
  refine hw_top (fun y1 ey1 => ?_)
  have vc := vc y1 ey1
  refine hw_istore_n X dd_In_bitCount_9 (by decide) rfl ?_
  refine hw_iload_n X dd_In_bitCount_10 rfl ?_
  refine hw_ldc_w X (kc_In_266 X) dd_In_bitCount_11 ?_
  refine hw_iand X dd_In_bitCount_14 ?_
  refine hw_iload_n X dd_In_bitCount_15 rfl ?_
  refine hw_iconst X (v := 2) dd_In_bitCount_16 (by decide) ?_
  refine hw_iushr X rfl dd_In_bitCount_17 ?_
  refine hw_ldc_w X (kc_In_266 X) dd_In_bitCount_18 ?_
  refine hw_iand X dd_In_bitCount_21 ?_
  refine hw_iadd X dd_In_bitCount_22 ?_
  refine hw_top (fun y2 ey2 => ?_)
  have vc := vc y2 ey2
  refine hw_istore_n X dd_In_bitCount_23 (by decide) rfl ?_
  refine hw_iload_n X dd_In_bitCount_24 rfl ?_
  refine hw_iload_n X dd_In_bitCount_25 rfl ?_
  refine hw_iconst X (v := 4) dd_In_bitCount_26 (by decide) ?_
  refine hw_iushr X rfl dd_In_bitCount_27 ?_
  refine hw_iadd X dd_In_bitCount_28 ?_
  refine hw_ldc_w X (kc_In_267 X) dd_In_bitCount_29 ?_
  refine hw_iand X dd_In_bitCount_32 ?_
  refine hw_top (fun y3 ey3 => ?_)
  have vc := vc y3 ey3
  refine hw_istore_n X dd_In_bitCount_33 (by decide) rfl ?_
  refine hw_iload_n X dd_In_bitCount_34 rfl ?_
  refine hw_iload_n X dd_In_bitCount_35 rfl ?_
  refine hw_bipush X (v := 8) dd_In_bitCount_36 (by decide) ?_
  refine hw_iushr X rfl dd_In_bitCount_38 ?_
  refine hw_iadd X dd_In_bitCount_39 ?_
  refine hw_top (fun y4 ey4 => ?_)
  have vc := vc y4 ey4
  refine hw_istore_n X dd_In_bitCount_40 (by decide) rfl ?_
  refine hw_iload_n X dd_In_bitCount_41 rfl ?_
  refine hw_iload_n X dd_In_bitCount_42 rfl ?_
  refine hw_bipush X (v := 16) dd_In_bitCount_43 (by decide) ?_
  refine hw_iushr X rfl dd_In_bitCount_45 ?_
  refine hw_iadd X dd_In_bitCount_46 ?_
  refine hw_top (fun y5 ey5 => ?_)
  have vc := vc y5 ey5
  refine hw_istore_n X dd_In_bitCount_47 (by decide) rfl ?_
  refine hw_iload_n X dd_In_bitCount_48 rfl ?_
  refine hw_bipush X (v := 63) dd_In_bitCount_49 (by decide) ?_
  refine hw_iand X dd_In_bitCount_51 ?_
  exact rt dd_In_bitCount_52 vc
end
section
variable {p : Program} {l : Launch} {e : Env} {R : Room} {s : State} {m : MethodId} {args : Array Value} {below : List Frame} {meth : Method} {c : Code} {Q : State → Prop} {g : hw_G} {A : Nat → Prop} {k n : Nat} {w : hw_H}
def vc_Co_bit_0 (l : Launch) (g : hw_G) (R : Room) (K : Nat → Nat → Nat → List (Option Value) → List Value → hw_H → Prop) (PR : Nat → Nat → Int32 → hw_H → Prop) (k n : Nat) (x0 : Int32) (w : hw_H) : Prop := ((¬ x0 = 0) → (((x0 ≤ 0) → (PR k n ((1 : Int32) <<< (((9 : Int32) - x0) &&& 31)) w)) ∧ ((¬ x0 ≤ 0) → (PR k n ((1 : Int32) <<< ((x0 - (1 : Int32)) &&& 31)) w)))) ∧ ((x0 = 0) → (PR k n (0 : Int32) w))
set_option maxHeartbeats 4000000 in
set_option maxRecDepth 100000 in
theorem sg_Co_bit_0 (X : hw_X p m c cb_Co_bit 1 s args (mw_Co_bit) "ProofCourt" g A) {K : Nat → Nat → Nat → List (Option Value) → List Value → hw_H → Prop} {PR : Nat → Nat → Int32 → hw_H → Prop} (hK : ∀ (k n pc : Nat) (lv : List (Option Value)) (st : List Value) (w : hw_H), K k n pc lv st w → hw_J p l e R s m args below meth c Q 1 g A k n pc lv st w) (rt : ∀ {k n pc : Nat} {lv : List (Option Value)} {x : Int32} {w : hw_H}, decode cb_Co_bit pc = .ok (.ireturn, 1) → PR k n x w → hw_J p l e R s m args below meth c Q 1 g A k n pc lv [.int x] w) {x0 : Int32} (vc : vc_Co_bit_0 l g R K PR k n x0 w) : hw_J p l e R s m args below meth c Q 1 g A k n 0 [some (.int x0)] [] w := by
  unfold vc_Co_bit_0 at vc
  refine hw_iload_n X dd_Co_bit_0 rfl ?_
  refine hw_if_ne X (tgt := 6) dd_Co_bit_1 rfl (fun hc => ?_) (fun hc => ?_)
  · have vc := vc.1 hc
    refine hw_iload_n X dd_Co_bit_6 rfl ?_
    refine hw_if_le X (tgt := 18) dd_Co_bit_7 rfl (fun hc => ?_) (fun hc => ?_)
    · have vc := vc.1 hc
      refine hw_iconst X (v := 1) dd_Co_bit_18 (by decide) ?_
      refine hw_bipush X (v := 9) dd_Co_bit_19 (by decide) ?_
      refine hw_iload_n X dd_Co_bit_21 rfl ?_
      refine hw_isub X dd_Co_bit_22 ?_
      refine hw_ishl X dd_Co_bit_23 ?_
      exact rt dd_Co_bit_24 vc
    · have vc := vc.2 hc
      refine hw_iconst X (v := 1) dd_Co_bit_10 (by decide) ?_
      refine hw_iload_n X dd_Co_bit_11 rfl ?_
      refine hw_iconst X (v := 1) dd_Co_bit_12 (by decide) ?_
      refine hw_isub X dd_Co_bit_13 ?_
      refine hw_ishl X dd_Co_bit_14 ?_
      refine hw_goto X (tgt := 24) dd_Co_bit_15 rfl ?_
      exact rt dd_Co_bit_24 vc
  · have vc := vc.2 hc
    refine hw_iconst X (v := 0) dd_Co_bit_4 (by decide) ?_
    exact rt dd_Co_bit_5 vc
end
section
variable {p : Program} {l : Launch} {e : Env} {R : Room} {s : State} {m : MethodId} {args : Array Value} {below : List Frame} {meth : Method} {c : Code} {Q : State → Prop} {g : hw_G} {A : Nat → Prop} {k n : Nat} {w : hw_H}
def vc_Co_opposites_0 (l : Launch) (g : hw_G) (R : Room) (K : Nat → Nat → Nat → List (Option Value) → List Value → hw_H → Prop) (PR : Nat → Nat → Int32 → hw_H → Prop) (k n : Nat) (x0 : Int32) (w : hw_H) : Prop := PR k n (((x0 <<< ((10 : Int32) &&& 31)) ||| (x0 >>> ((10 : Int32) &&& 31))) &&& (1048575 : Int32)) w
set_option maxHeartbeats 4000000 in
set_option maxRecDepth 100000 in
theorem sg_Co_opposites_0 (X : hw_X p m c cb_Co_opposites 1 s args (mw_Co_opposites) "ProofCourt" g A) {K : Nat → Nat → Nat → List (Option Value) → List Value → hw_H → Prop} {PR : Nat → Nat → Int32 → hw_H → Prop} (hK : ∀ (k n pc : Nat) (lv : List (Option Value)) (st : List Value) (w : hw_H), K k n pc lv st w → hw_J p l e R s m args below meth c Q 1 g A k n pc lv st w) (rt : ∀ {k n pc : Nat} {lv : List (Option Value)} {x : Int32} {w : hw_H}, decode cb_Co_opposites pc = .ok (.ireturn, 1) → PR k n x w → hw_J p l e R s m args below meth c Q 1 g A k n pc lv [.int x] w) {x0 : Int32} (vc : vc_Co_opposites_0 l g R K PR k n x0 w) : hw_J p l e R s m args below meth c Q 1 g A k n 0 [some (.int x0)] [] w := by
  unfold vc_Co_opposites_0 at vc
  refine hw_iload_n X dd_Co_opposites_0 rfl ?_
  refine hw_bipush X (v := 10) dd_Co_opposites_1 (by decide) ?_
  refine hw_ishl X dd_Co_opposites_3 ?_
  refine hw_iload_n X dd_Co_opposites_4 rfl ?_
  refine hw_bipush X (v := 10) dd_Co_opposites_5 (by decide) ?_
  refine hw_ishr X dd_Co_opposites_7 ?_
  refine hw_ior X dd_Co_opposites_8 ?_
  refine hw_ldc X (kc_Co_134 X) dd_Co_opposites_9 ?_
  refine hw_iand X dd_Co_opposites_11 ?_
  exact rt dd_Co_opposites_12 vc
end
section
variable {p : Program} {l : Launch} {e : Env} {R : Room} {s : State} {m : MethodId} {args : Array Value} {below : List Frame} {meth : Method} {c : Code} {Q : State → Prop} {g : hw_G} {A : Nat → Prop} {k n : Nat} {w : hw_H}
def vc_Co_follow_0 (l : Launch) (g : hw_G) (R : Room) (K : Nat → Nat → Nat → List (Option Value) → List Value → hw_H → Prop) (PR : Nat → Nat → Int32 → hw_H → Prop) (k n : Nat) (x0 : Int32) (x1 : Int32) (w : hw_H) : Prop := hw_ci l g R k n ym_Co_opposites (mw_Co_opposites) 1 [.int x1] w (fun (k2 n3 : Nat) (x_4 : Int32) (w1 : hw_H) => ∀ y5 : Int32, y5 = (x0 &&& (x_4 ^^^ (-1 : Int32))) → (((¬ y5 = 0) → (hw_ci l g R k2 n3 ym_In_bitCount (mw_In_bitCount) 1 [.int y5] w1 (fun (k7 n8 : Nat) (x_9 : Int32) (w6 : hw_H) => ((¬ x_9 = (1 : Int32)) → (PR k7 n8 (-2 : Int32) w6)) ∧ ((x_9 = (1 : Int32)) → (((¬ (y5 &&& x1) = 0) → (PR k7 n8 (-2 : Int32) w6)) ∧ (((y5 &&& x1) = 0) → (PR k7 n8 (x1 ||| y5) w6))))))) ∧ ((y5 = 0) → (PR k2 n3 (-1 : Int32) w1))))
set_option maxHeartbeats 4000000 in
set_option maxRecDepth 100000 in
theorem sg_Co_follow_0 (X : hw_X p m c cb_Co_follow 3 s args (mw_Co_follow) "ProofCourt" g A) {K : Nat → Nat → Nat → List (Option Value) → List Value → hw_H → Prop} {PR : Nat → Nat → Int32 → hw_H → Prop} (hK : ∀ (k n pc : Nat) (lv : List (Option Value)) (st : List Value) (w : hw_H), K k n pc lv st w → hw_J p l e R s m args below meth c Q 3 g A k n pc lv st w) (rt : ∀ {k n pc : Nat} {lv : List (Option Value)} {x : Int32} {w : hw_H}, decode cb_Co_follow pc = .ok (.ireturn, 1) → PR k n x w → hw_J p l e R s m args below meth c Q 3 g A k n pc lv [.int x] w) {x0 : Int32} {x1 : Int32} (vc : vc_Co_follow_0 l g R K PR k n x0 x1 w) : hw_J p l e R s m args below meth c Q 3 g A k n 0 [some (.int x0), some (.int x1), none] [] w := by
  unfold vc_Co_follow_0 at vc
  refine hw_iload_n X dd_Co_follow_0 rfl ?_
  refine hw_iload_n X dd_Co_follow_1 rfl ?_
  obtain ⟨rm9, po9, hM9, hf9, hc9, vc⟩ := vc
  refine hw_callSi X (As := [.int x1]) (ye_Co_135 X) hM9 rfl hf9 hc9 (Nat.le_of_ble_eq_true rfl) rfl dd_Co_follow_2 (fun x_4 w1 hp => ?_)
  have vc := vc x_4 w1 hp
  refine hw_iconst X (v := -1) dd_Co_follow_5 (by decide) ?_
  refine hw_ixor X dd_Co_follow_6 ?_
  refine hw_iand X dd_Co_follow_7 ?_
  refine hw_top (fun y5 ey5 => ?_)
  have vc := vc y5 ey5
  refine hw_istore_n X dd_Co_follow_8 (by decide) rfl ?_
  refine hw_iload_n X dd_Co_follow_9 rfl ?_
  refine hw_if_ne X (tgt := 15) dd_Co_follow_10 rfl (fun hc => ?_) (fun hc => ?_)
  · have vc := vc.1 hc
    refine hw_iload_n X dd_Co_follow_15 rfl ?_
    obtain ⟨rm9, po9, hM9, hf9, hc9, vc⟩ := vc
    refine hw_callSi X (As := [.int y5]) (ye_Co_98 X) hM9 rfl hf9 hc9 (Nat.le_of_ble_eq_true rfl) rfl dd_Co_follow_16 (fun x_9 w6 hp => ?_)
    have vc := vc x_9 w6 hp
    refine hw_iconst X (v := 1) dd_Co_follow_19 (by decide) ?_
    refine hw_icmp_ne X (tgt := 35) dd_Co_follow_20 rfl (fun hc => ?_) (fun hc => ?_)
    · have vc := vc.1 hc
      refine hw_bipush X (v := -2) dd_Co_follow_35 (by decide) ?_
      exact rt dd_Co_follow_37 vc
    · have vc := vc.2 hc
      refine hw_iload_n X dd_Co_follow_23 rfl ?_
      refine hw_iload_n X dd_Co_follow_24 rfl ?_
      refine hw_iand X dd_Co_follow_25 ?_
      refine hw_if_ne X (tgt := 35) dd_Co_follow_26 rfl (fun hc => ?_) (fun hc => ?_)
      · have vc := vc.1 hc
        refine hw_bipush X (v := -2) dd_Co_follow_35 (by decide) ?_
        exact rt dd_Co_follow_37 vc
      · have vc := vc.2 hc
        refine hw_iload_n X dd_Co_follow_29 rfl ?_
        refine hw_iload_n X dd_Co_follow_30 rfl ?_
        refine hw_ior X dd_Co_follow_31 ?_
        refine hw_goto X (tgt := 37) dd_Co_follow_32 rfl ?_
        exact rt dd_Co_follow_37 vc
  · have vc := vc.2 hc
    refine hw_iconst X (v := -1) dd_Co_follow_13 (by decide) ?_
    exact rt dd_Co_follow_14 vc
end
section
variable {p : Program} {l : Launch} {e : Env} {R : Room} {s : State} {m : MethodId} {args : Array Value} {below : List Frame} {meth : Method} {c : Code} {Q : State → Prop} {g : hw_G} {A : Nat → Prop} {k n : Nat} {w : hw_H}
def vc_Te_init_0 (l : Launch) (g : hw_G) (R : Room) (K : Nat → Nat → Nat → List (Option Value) → List Value → hw_H → Prop) (PR : Nat → Nat → hw_H → Prop) (k n : Nat) (a0 : Nat) (w : hw_H) : Prop := (k + 1 ≤ R.cells ∧ n + 160 ≤ R.slots) ∧ ∀ (q1 : Nat) (w2 : hw_H), w q1 = none → w2 = va_up w q1 (some (.inl (g.2.1 1, 160, .inl (fun _ => 0)))) → (∃ w3 : hw_H, hw_p w2 a0 0 0 (.ref q1) w3 ∧ (PR (k + 1) (n + 160) w3))
set_option maxHeartbeats 4000000 in
set_option maxRecDepth 100000 in
theorem sg_Te_init_0 (X : hw_X p m c cb_Te_init 1 s args (mw_Te_init) "ProofCourt$Text" g A) (hin : meth.name = "<init>") (hRm : 1 ≤ R.frames ∧ 20 ≤ R.locals) {K : Nat → Nat → Nat → List (Option Value) → List Value → hw_H → Prop} {PR : Nat → Nat → hw_H → Prop} (hK : ∀ (k n pc : Nat) (lv : List (Option Value)) (st : List Value) (w : hw_H), K k n pc lv st w → hw_J p l e R s m args below meth c Q 1 g A k n pc lv st w) (rt : ∀ {k n pc : Nat} {lv : List (Option Value)} {w : hw_H}, decode cb_Te_init pc = .ok (.return_, 1) → PR k n w → hw_J p l e R s m args below meth c Q 1 g A k n pc lv [] w) {a0 : Nat} (vc : vc_Te_init_0 l g R K PR k n a0 w) : hw_J p l e R s m args below meth c Q 1 g A k n 0 [some (.ref a0)] [] w := by
  unfold vc_Te_init_0 at vc
  refine hw_aload_n X (Or.inr ⟨_, rfl⟩) dd_Te_init_0 rfl ?_
  refine hw_objInit X (oi_Te_3 X) (oj_Te X) (ok_Te X) (hw_oi1 hRm) (hw_oi2 hRm) (by decide) dd_Te_init_1 ?_
  refine hw_aload_n X (Or.inr ⟨_, rfl⟩) dd_Te_init_4 rfl ?_
  refine hw_sipush X (v := 160) dd_Te_init_5 (by decide) ?_
  refine hw_newa X (t := 1) (N := 160) (ty := .char) (ac_Te_char X) rfl rfl (fun _ z => by cases z) rfl (by decide) (by decide) (by decide) vc.1.1 vc.1.2 dd_Te_init_8 (fun q1 hq => ?_)
  have vc := vc.2 q1 _ hq rfl
  obtain ⟨w3, h9, vc⟩ := vc
  refine hw_putF X (ff_Te_9 X) hin rfl rfl h9 dd_Te_init_10 ?_
  exact rt dd_Te_init_13 vc
end
section
variable {p : Program} {l : Launch} {e : Env} {R : Room} {s : State} {m : MethodId} {args : Array Value} {below : List Frame} {meth : Method} {c : Code} {Q : State → Prop} {g : hw_G} {A : Nat → Prop} {k n : Nat} {w : hw_H}
def vc_Pr_init_0 (l : Launch) (g : hw_G) (R : Room) (K : Nat → Nat → Nat → List (Option Value) → List Value → hw_H → Prop) (PR : Nat → Nat → hw_H → Prop) (k n : Nat) (a0 : Nat) (w : hw_H) : Prop := (k + 1 ≤ R.cells ∧ n + 40 ≤ R.slots) ∧ ∀ (q1 : Nat) (w2 : hw_H), w q1 = none → w2 = va_up w q1 (some (.inl (g.2.1 3, 40, .inr (.inr (.inr (.inr (fun _ => none))))))) → (∃ w3 : hw_H, hw_p w2 a0 1 0 (.ref q1) w3 ∧ (PR (k + 1) (n + 40) w3))
set_option maxHeartbeats 4000000 in
set_option maxRecDepth 100000 in
theorem sg_Pr_init_0 (X : hw_X p m c cb_Pr_init 1 s args (mw_Pr_init) "ProofCourt$Proof" g A) (hin : meth.name = "<init>") (hRm : 1 ≤ R.frames ∧ 20 ≤ R.locals) {K : Nat → Nat → Nat → List (Option Value) → List Value → hw_H → Prop} {PR : Nat → Nat → hw_H → Prop} (hK : ∀ (k n pc : Nat) (lv : List (Option Value)) (st : List Value) (w : hw_H), K k n pc lv st w → hw_J p l e R s m args below meth c Q 1 g A k n pc lv st w) (rt : ∀ {k n pc : Nat} {lv : List (Option Value)} {w : hw_H}, decode cb_Pr_init pc = .ok (.return_, 1) → PR k n w → hw_J p l e R s m args below meth c Q 1 g A k n pc lv [] w) {a0 : Nat} (vc : vc_Pr_init_0 l g R K PR k n a0 w) : hw_J p l e R s m args below meth c Q 1 g A k n 0 [some (.ref a0)] [] w := by
  unfold vc_Pr_init_0 at vc
  refine hw_aload_n X (Or.inr ⟨_, rfl⟩) dd_Pr_init_0 rfl ?_
  refine hw_objInit X (oi_Pr_3 X) (oj_Pr X) (ok_Pr X) (hw_oi1 hRm) (hw_oi2 hRm) (by decide) dd_Pr_init_1 ?_
  refine hw_aload_n X (Or.inr ⟨_, rfl⟩) dd_Pr_init_4 rfl ?_
  refine hw_bipush X (v := 40) dd_Pr_init_5 (by decide) ?_
  refine hw_newq X (N := 40) (cq_Pr_9 X) (co_Pr X) (by decide) (by decide) (by decide) vc.1.1 vc.1.2 dd_Pr_init_7 (fun q1 hq => ?_)
  have vc := vc.2 q1 _ hq rfl
  obtain ⟨w3, h9, vc⟩ := vc
  refine hw_putF X (ff_Pr_11 X) hin rfl rfl h9 dd_Pr_init_10 ?_
  exact rt dd_Pr_init_13 vc
end
section
variable {p : Program} {l : Launch} {e : Env} {R : Room} {s : State} {m : MethodId} {args : Array Value} {below : List Frame} {meth : Method} {c : Code} {Q : State → Prop} {g : hw_G} {A : Nat → Prop} {k n : Nat} {w : hw_H}
def vc_Se_init_0 (l : Launch) (g : hw_G) (R : Room) (K : Nat → Nat → Nat → List (Option Value) → List Value → hw_H → Prop) (PR : Nat → Nat → hw_H → Prop) (k n : Nat) (a0 : Nat) (w : hw_H) : Prop := (k + 1 ≤ R.cells ∧ n + 2072 ≤ R.slots) ∧ ∀ (q1 : Nat) (w2 : hw_H), w q1 = none → w2 = va_up w q1 (some (.inl (g.2.1 0, 2072, .inl (fun _ => 0)))) → (∃ w3 : hw_H, hw_p w2 a0 2 0 (.ref q1) w3 ∧ (((k + 1) + 1 ≤ R.cells ∧ (n + 2072) + 10 ≤ R.slots) ∧ ∀ (q4 : Nat) (w5 : hw_H), w3 q4 = none → w5 = va_up w3 q4 (some (.inl (g.2.1 0, 10, .inl (fun _ => 0)))) → (∃ w6 : hw_H, hw_p w5 a0 2 8 (.ref q4) w6 ∧ ((((k + 1) + 1) + 1 ≤ R.cells ∧ ((n + 2072) + 10) + 10 ≤ R.slots) ∧ ∀ (q7 : Nat) (w8 : hw_H), w6 q7 = none → w8 = va_up w6 q7 (some (.inl (g.2.1 0, 10, .inl (fun _ => 0)))) → (∃ w9 : hw_H, hw_p w8 a0 2 9 (.ref q7) w9 ∧ (((((k + 1) + 1) + 1) + 1 ≤ R.cells ∧ (((n + 2072) + 10) + 10) + 11 ≤ R.slots) ∧ ∀ (q10 : Nat) (w11 : hw_H), w9 q10 = none → w11 = va_up w9 q10 (some (.inl (g.2.1 0, 11, .inl (fun _ => 0)))) → (∃ w12 : hw_H, hw_p w11 a0 2 11 (.ref q10) w12 ∧ ((((((k + 1) + 1) + 1) + 1) + 1 ≤ R.cells ∧ ((((n + 2072) + 10) + 10) + 11) + 11 ≤ R.slots) ∧ ∀ (q13 : Nat) (w14 : hw_H), w12 q13 = none → w14 = va_up w12 q13 (some (.inl (g.2.1 0, 11, .inl (fun _ => 0)))) → (∃ w15 : hw_H, hw_p w14 a0 2 13 (.ref q13) w15 ∧ (PR (((((k + 1) + 1) + 1) + 1) + 1) (((((n + 2072) + 10) + 10) + 11) + 11) w15))))))))))
set_option maxHeartbeats 4000000 in
set_option maxRecDepth 100000 in
theorem sg_Se_init_0 (X : hw_X p m c cb_Se_init 1 s args (mw_Se_init) "ProofCourt$Search" g A) (hin : meth.name = "<init>") (hRm : 1 ≤ R.frames ∧ 20 ≤ R.locals) {K : Nat → Nat → Nat → List (Option Value) → List Value → hw_H → Prop} {PR : Nat → Nat → hw_H → Prop} (hK : ∀ (k n pc : Nat) (lv : List (Option Value)) (st : List Value) (w : hw_H), K k n pc lv st w → hw_J p l e R s m args below meth c Q 1 g A k n pc lv st w) (rt : ∀ {k n pc : Nat} {lv : List (Option Value)} {w : hw_H}, decode cb_Se_init pc = .ok (.return_, 1) → PR k n w → hw_J p l e R s m args below meth c Q 1 g A k n pc lv [] w) {a0 : Nat} (vc : vc_Se_init_0 l g R K PR k n a0 w) : hw_J p l e R s m args below meth c Q 1 g A k n 0 [some (.ref a0)] [] w := by
  unfold vc_Se_init_0 at vc
  refine hw_aload_n X (Or.inr ⟨_, rfl⟩) dd_Se_init_0 rfl ?_
  refine hw_objInit X (oi_Se_3 X) (oj_Se X) (ok_Se X) (hw_oi1 hRm) (hw_oi2 hRm) (by decide) dd_Se_init_1 ?_
  refine hw_aload_n X (Or.inr ⟨_, rfl⟩) dd_Se_init_4 rfl ?_
  refine hw_sipush X (v := 2072) dd_Se_init_5 (by decide) ?_
  refine hw_newa X (t := 0) (N := 2072) (ty := .int) (ac_Se_int X) rfl rfl (fun _ z => by cases z) rfl (by decide) (by decide) (by decide) vc.1.1 vc.1.2 dd_Se_init_8 (fun q1 hq => ?_)
  have vc := vc.2 q1 _ hq rfl
  obtain ⟨w3, h9, vc⟩ := vc
  refine hw_putF X (ff_Se_9 X) hin rfl rfl h9 dd_Se_init_10 ?_
  refine hw_aload_n X (Or.inr ⟨_, rfl⟩) dd_Se_init_13 rfl ?_
  refine hw_bipush X (v := 10) dd_Se_init_14 (by decide) ?_
  refine hw_newa X (t := 0) (N := 10) (ty := .int) (ac_Se_int X) rfl rfl (fun _ z => by cases z) rfl (by decide) (by decide) (by decide) vc.1.1 vc.1.2 dd_Se_init_16 (fun q4 hq => ?_)
  have vc := vc.2 q4 _ hq rfl
  obtain ⟨w6, h9, vc⟩ := vc
  refine hw_putF X (ff_Se_15 X) hin rfl rfl h9 dd_Se_init_18 ?_
  refine hw_aload_n X (Or.inr ⟨_, rfl⟩) dd_Se_init_21 rfl ?_
  refine hw_bipush X (v := 10) dd_Se_init_22 (by decide) ?_
  refine hw_newa X (t := 0) (N := 10) (ty := .int) (ac_Se_int X) rfl rfl (fun _ z => by cases z) rfl (by decide) (by decide) (by decide) vc.1.1 vc.1.2 dd_Se_init_24 (fun q7 hq => ?_)
  have vc := vc.2 q7 _ hq rfl
  obtain ⟨w9, h9, vc⟩ := vc
  refine hw_putF X (ff_Se_18 X) hin rfl rfl h9 dd_Se_init_26 ?_
  refine hw_aload_n X (Or.inr ⟨_, rfl⟩) dd_Se_init_29 rfl ?_
  refine hw_bipush X (v := 11) dd_Se_init_30 (by decide) ?_
  refine hw_newa X (t := 0) (N := 11) (ty := .int) (ac_Se_int X) rfl rfl (fun _ z => by cases z) rfl (by decide) (by decide) (by decide) vc.1.1 vc.1.2 dd_Se_init_32 (fun q10 hq => ?_)
  have vc := vc.2 q10 _ hq rfl
  obtain ⟨w12, h9, vc⟩ := vc
  refine hw_putF X (ff_Se_21 X) hin rfl rfl h9 dd_Se_init_34 ?_
  refine hw_aload_n X (Or.inr ⟨_, rfl⟩) dd_Se_init_37 rfl ?_
  refine hw_bipush X (v := 11) dd_Se_init_38 (by decide) ?_
  refine hw_newa X (t := 0) (N := 11) (ty := .int) (ac_Se_int X) rfl rfl (fun _ z => by cases z) rfl (by decide) (by decide) (by decide) vc.1.1 vc.1.2 dd_Se_init_40 (fun q13 hq => ?_)
  have vc := vc.2 q13 _ hq rfl
  obtain ⟨w15, h9, vc⟩ := vc
  refine hw_putF X (ff_Se_24 X) hin rfl rfl h9 dd_Se_init_42 ?_
  exact rt dd_Se_init_45 vc
end
section
variable {p : Program} {l : Launch} {e : Env} {R : Room} {s : State} {m : MethodId} {args : Array Value} {below : List Frame} {meth : Method} {c : Code} {Q : State → Prop} {g : hw_G} {A : Nat → Prop} {k n : Nat} {w : hw_H}
def vc_Fo_init_0 (l : Launch) (g : hw_G) (R : Room) (K : Nat → Nat → Nat → List (Option Value) → List Value → hw_H → Prop) (PR : Nat → Nat → hw_H → Prop) (k n : Nat) (a0 : Nat) (x1 : Int32) (w : hw_H) : Prop := (k + 1 ≤ R.cells ∧ n + 24 ≤ R.slots) ∧ ∀ (q1 : Nat) (w2 : hw_H), w q1 = none → w2 = va_up w q1 (some (.inl (g.2.1 3, 24, .inr (.inr (.inr (.inr (fun _ => none))))))) → (∃ w3 : hw_H, hw_p w2 a0 3 1 (.ref q1) w3 ∧ (∃ w4 : hw_H, hw_p w3 a0 3 3 (.int (-1 : Int32)) w4 ∧ (∃ w5 : hw_H, hw_p w4 a0 3 0 (.int x1) w5 ∧ (PR (k + 1) (n + 24) w5))))
set_option maxHeartbeats 4000000 in
set_option maxRecDepth 100000 in
theorem sg_Fo_init_0 (X : hw_X p m c cb_Fo_init 2 s args (mw_Fo_init) "ProofCourt$Formula" g A) (hin : meth.name = "<init>") (hRm : 1 ≤ R.frames ∧ 20 ≤ R.locals) {K : Nat → Nat → Nat → List (Option Value) → List Value → hw_H → Prop} {PR : Nat → Nat → hw_H → Prop} (hK : ∀ (k n pc : Nat) (lv : List (Option Value)) (st : List Value) (w : hw_H), K k n pc lv st w → hw_J p l e R s m args below meth c Q 2 g A k n pc lv st w) (rt : ∀ {k n pc : Nat} {lv : List (Option Value)} {w : hw_H}, decode cb_Fo_init pc = .ok (.return_, 1) → PR k n w → hw_J p l e R s m args below meth c Q 2 g A k n pc lv [] w) {a0 : Nat} {x1 : Int32} (vc : vc_Fo_init_0 l g R K PR k n a0 x1 w) : hw_J p l e R s m args below meth c Q 2 g A k n 0 [some (.ref a0), some (.int x1)] [] w := by
  unfold vc_Fo_init_0 at vc
  refine hw_aload_n X (Or.inr ⟨_, rfl⟩) dd_Fo_init_0 rfl ?_
  refine hw_objInit X (oi_Fo_3 X) (oj_Fo X) (ok_Fo X) (hw_oi1 hRm) (hw_oi2 hRm) (by decide) dd_Fo_init_1 ?_
  refine hw_aload_n X (Or.inr ⟨_, rfl⟩) dd_Fo_init_4 rfl ?_
  refine hw_bipush X (v := 24) dd_Fo_init_5 (by decide) ?_
  refine hw_newq X (N := 24) (cq_Fo_9 X) (co_Fo X) (by decide) (by decide) (by decide) vc.1.1 vc.1.2 dd_Fo_init_7 (fun q1 hq => ?_)
  have vc := vc.2 q1 _ hq rfl
  obtain ⟨w3, h9, vc⟩ := vc
  refine hw_putF X (ff_Fo_11 X) hin rfl rfl h9 dd_Fo_init_10 ?_
  refine hw_aload_n X (Or.inr ⟨_, rfl⟩) dd_Fo_init_13 rfl ?_
  refine hw_iconst X (v := -1) dd_Fo_init_14 (by decide) ?_
  obtain ⟨w4, h9, vc⟩ := vc
  refine hw_put X (fp_Fo_17 X) rfl rfl h9 dd_Fo_init_15 ?_
  refine hw_aload_n X (Or.inr ⟨_, rfl⟩) dd_Fo_init_18 rfl ?_
  refine hw_iload_n X dd_Fo_init_19 rfl ?_
  obtain ⟨w5, h9, vc⟩ := vc
  refine hw_putF X (ff_Fo_21 X) hin rfl rfl h9 dd_Fo_init_20 ?_
  exact rt dd_Fo_init_23 vc
end
section
variable {p : Program} {l : Launch} {e : Env} {R : Room} {s : State} {m : MethodId} {args : Array Value} {below : List Frame} {meth : Method} {c : Code} {Q : State → Prop} {g : hw_G} {A : Nat → Prop} {k n : Nat} {w : hw_H}
def vc_Pr_begin_0 (l : Launch) (g : hw_G) (R : Room) (K : Nat → Nat → Nat → List (Option Value) → List Value → hw_H → Prop) (PR : Nat → Nat → hw_H → Prop) (k n : Nat) (a0 : Nat) (a1 : Nat) (w : hw_H) : Prop := K k n 2 [some (.ref a0), some (.ref a1), some (.int (0 : Int32))] [] w
set_option maxHeartbeats 4000000 in
set_option maxRecDepth 100000 in
theorem sg_Pr_begin_0 (X : hw_X p m c cb_Pr_begin 3 s args (mw_Pr_begin) "ProofCourt$Proof" g A) {K : Nat → Nat → Nat → List (Option Value) → List Value → hw_H → Prop} {PR : Nat → Nat → hw_H → Prop} (hK : ∀ (k n pc : Nat) (lv : List (Option Value)) (st : List Value) (w : hw_H), K k n pc lv st w → hw_J p l e R s m args below meth c Q 3 g A k n pc lv st w) (rt : ∀ {k n pc : Nat} {lv : List (Option Value)} {w : hw_H}, decode cb_Pr_begin pc = .ok (.return_, 1) → PR k n w → hw_J p l e R s m args below meth c Q 3 g A k n pc lv [] w) {a0 : Nat} {a1 : Nat} (vc : vc_Pr_begin_0 l g R K PR k n a0 a1 w) : hw_J p l e R s m args below meth c Q 3 g A k n 0 [some (.ref a0), some (.ref a1), none] [] w := by
  unfold vc_Pr_begin_0 at vc
  refine hw_iconst X (v := 0) dd_Pr_begin_0 (by decide) ?_
  refine hw_istore_n X dd_Pr_begin_1 (by decide) rfl ?_
  exact hK _ _ _ _ _ _ vc
def vc_Pr_begin_2 (l : Launch) (g : hw_G) (R : Room) (K : Nat → Nat → Nat → List (Option Value) → List Value → hw_H → Prop) (PR : Nat → Nat → hw_H → Prop) (k n : Nat) (a0 : Nat) (a1 : Nat) (x2 : Int32) (w : hw_H) : Prop := ∃ x_1 : Int32, hw_g w a1 3 2 (.int x_1) ∧ (((x_1 ≤ x2) → (∃ x_2 : Int32, hw_g w a1 3 2 (.int x_2) ∧ (∃ w3 : hw_H, hw_p w a0 1 1 (.int x_2) w3 ∧ (∃ x_4 : Int32, hw_g w3 a1 3 2 (.int x_4) ∧ (∃ w5 : hw_H, hw_p w3 a0 1 2 (.int x_4) w5 ∧ (∃ w6 : hw_H, hw_p w5 a0 1 3 (.int (0 : Int32)) w6 ∧ hw_b (0 : Int32) ∧ (PR k n w6))))))) ∧ ((¬ x_1 ≤ x2) → (∃ b_7 : Nat, hw_g w a0 1 0 (.ref b_7) ∧ (∃ b_8 : Nat, hw_g w a1 3 1 (.ref b_8) ∧ (∃ b_9 : Nat, hw_ar g w b_8 x2 (some b_9) ∧ (∃ w10 : hw_H, hw_aw g 5 w b_7 x2 b_9 w10 ∧ (K k n 2 [some (.ref a0), some (.ref a1), some (.int (x2 + 1))] [] w10)))))))
set_option maxHeartbeats 4000000 in
set_option maxRecDepth 100000 in
theorem sg_Pr_begin_2 (X : hw_X p m c cb_Pr_begin 3 s args (mw_Pr_begin) "ProofCourt$Proof" g A) {K : Nat → Nat → Nat → List (Option Value) → List Value → hw_H → Prop} {PR : Nat → Nat → hw_H → Prop} (hK : ∀ (k n pc : Nat) (lv : List (Option Value)) (st : List Value) (w : hw_H), K k n pc lv st w → hw_J p l e R s m args below meth c Q 3 g A k n pc lv st w) (rt : ∀ {k n pc : Nat} {lv : List (Option Value)} {w : hw_H}, decode cb_Pr_begin pc = .ok (.return_, 1) → PR k n w → hw_J p l e R s m args below meth c Q 3 g A k n pc lv [] w) {a0 : Nat} {a1 : Nat} {x2 : Int32} (vc : vc_Pr_begin_2 l g R K PR k n a0 a1 x2 w) : hw_J p l e R s m args below meth c Q 3 g A k n 2 [some (.ref a0), some (.ref a1), some (.int x2)] [] w := by
  unfold vc_Pr_begin_2 at vc
  refine hw_iload_n X dd_Pr_begin_2 rfl ?_
  refine hw_aload_n X (Or.inr ⟨_, rfl⟩) dd_Pr_begin_3 rfl ?_
  obtain ⟨x_1, h9, vc⟩ := vc
  refine hw_get X (fe_Pr_17 X) h9 dd_Pr_begin_4 ?_
  refine hw_icmp_ge X (tgt := 28) dd_Pr_begin_7 rfl (fun hc => ?_) (fun hc => ?_)
  · have vc := vc.1 hc
    refine hw_aload_n X (Or.inr ⟨_, rfl⟩) dd_Pr_begin_28 rfl ?_
    refine hw_aload_n X (Or.inr ⟨_, rfl⟩) dd_Pr_begin_29 rfl ?_
    obtain ⟨x_2, h9, vc⟩ := vc
    refine hw_get X (fe_Pr_17 X) h9 dd_Pr_begin_30 ?_
    obtain ⟨w3, h9, vc⟩ := vc
    refine hw_put X (fp_Pr_24 X) rfl rfl h9 dd_Pr_begin_33 ?_
    refine hw_aload_n X (Or.inr ⟨_, rfl⟩) dd_Pr_begin_36 rfl ?_
    refine hw_aload_n X (Or.inr ⟨_, rfl⟩) dd_Pr_begin_37 rfl ?_
    obtain ⟨x_4, h9, vc⟩ := vc
    refine hw_get X (fe_Pr_17 X) h9 dd_Pr_begin_38 ?_
    obtain ⟨w5, h9, vc⟩ := vc
    refine hw_put X (fp_Pr_25 X) rfl rfl h9 dd_Pr_begin_41 ?_
    refine hw_aload_n X (Or.inr ⟨_, rfl⟩) dd_Pr_begin_44 rfl ?_
    refine hw_iconst X (v := 0) dd_Pr_begin_45 (by decide) ?_
    obtain ⟨w6, h9, h8, vc⟩ := vc
    refine hw_put X (fp_Pr_28 X) (hw_b_nar h8) (hw_b_fit h8) h9 dd_Pr_begin_46 ?_
    exact rt dd_Pr_begin_49 vc
  · have vc := vc.2 hc
    refine hw_aload_n X (Or.inr ⟨_, rfl⟩) dd_Pr_begin_10 rfl ?_
    obtain ⟨b_7, h9, vc⟩ := vc
    refine hw_get X (fe_Pr_11 X) h9 dd_Pr_begin_11 ?_
    refine hw_iload_n X dd_Pr_begin_14 rfl ?_
    refine hw_aload_n X (Or.inr ⟨_, rfl⟩) dd_Pr_begin_15 rfl ?_
    obtain ⟨b_8, h9, vc⟩ := vc
    refine hw_get X (fe_Pr_23 X) h9 dd_Pr_begin_16 ?_
    refine hw_iload_n X dd_Pr_begin_19 rfl ?_
    obtain ⟨b_9, h9, vc⟩ := vc
    refine hw_aald X h9 dd_Pr_begin_20 ?_
    obtain ⟨w10, h9, vc⟩ := vc
    refine hw_aast X (ci := 5) rfl rfl h9 dd_Pr_begin_21 ?_
    refine hw_iinc X (v := (x2 + 1)) dd_Pr_begin_22 rfl rfl (by decide) rfl ?_
    refine hw_goto X (tgt := 2) dd_Pr_begin_25 rfl ?_
    exact hK _ _ _ _ _ _ vc
end
section
variable {p : Program} {l : Launch} {e : Env} {R : Room} {s : State} {m : MethodId} {args : Array Value} {below : List Frame} {meth : Method} {c : Code} {Q : State → Prop} {g : hw_G} {A : Nat → Prop} {k n : Nat} {w : hw_H}
def vc_Se_begin_0 (l : Launch) (g : hw_G) (R : Room) (K : Nat → Nat → Nat → List (Option Value) → List Value → hw_H → Prop) (PR : Nat → Nat → hw_H → Prop) (k n : Nat) (a0 : Nat) (a1 : Nat) (w : hw_H) : Prop := ∃ x_1 : Int32, hw_g w a1 3 2 (.int x_1) ∧ (∃ w2 : hw_H, hw_p w a0 2 1 (.int x_1) w2 ∧ (K k n 10 [some (.ref a0), some (.ref a1), some (.int (0 : Int32))] [] w2))
set_option maxHeartbeats 4000000 in
set_option maxRecDepth 100000 in
theorem sg_Se_begin_0 (X : hw_X p m c cb_Se_begin 3 s args (mw_Se_begin) "ProofCourt$Search" g A) {K : Nat → Nat → Nat → List (Option Value) → List Value → hw_H → Prop} {PR : Nat → Nat → hw_H → Prop} (hK : ∀ (k n pc : Nat) (lv : List (Option Value)) (st : List Value) (w : hw_H), K k n pc lv st w → hw_J p l e R s m args below meth c Q 3 g A k n pc lv st w) (rt : ∀ {k n pc : Nat} {lv : List (Option Value)} {w : hw_H}, decode cb_Se_begin pc = .ok (.return_, 1) → PR k n w → hw_J p l e R s m args below meth c Q 3 g A k n pc lv [] w) {a0 : Nat} {a1 : Nat} (vc : vc_Se_begin_0 l g R K PR k n a0 a1 w) : hw_J p l e R s m args below meth c Q 3 g A k n 0 [some (.ref a0), some (.ref a1), none] [] w := by
  unfold vc_Se_begin_0 at vc
  refine hw_aload_n X (Or.inr ⟨_, rfl⟩) dd_Se_begin_0 rfl ?_
  refine hw_aload_n X (Or.inr ⟨_, rfl⟩) dd_Se_begin_1 rfl ?_
  obtain ⟨x_1, h9, vc⟩ := vc
  refine hw_get X (fe_Se_27 X) h9 dd_Se_begin_2 ?_
  obtain ⟨w2, h9, vc⟩ := vc
  refine hw_put X (fp_Se_33 X) rfl rfl h9 dd_Se_begin_5 ?_
  refine hw_iconst X (v := 0) dd_Se_begin_8 (by decide) ?_
  refine hw_istore_n X dd_Se_begin_9 (by decide) rfl ?_
  exact hK _ _ _ _ _ _ vc
def vc_Se_begin_10 (l : Launch) (g : hw_G) (R : Room) (K : Nat → Nat → Nat → List (Option Value) → List Value → hw_H → Prop) (PR : Nat → Nat → hw_H → Prop) (k n : Nat) (a0 : Nat) (a1 : Nat) (x2 : Int32) (w : hw_H) : Prop := ∃ x_1 : Int32, hw_g w a0 2 1 (.int x_1) ∧ (((x_1 ≤ x2) → (∃ x_2 : Int32, hw_g w a1 3 0 (.int x_2) ∧ (∃ w3 : hw_H, hw_p w a0 2 2 (.int x_2) w3 ∧ (∃ w4 : hw_H, hw_p w3 a0 2 3 (.int (0 : Int32)) w4 ∧ hw_b (0 : Int32) ∧ (∃ w5 : hw_H, hw_p w4 a0 2 4 (.int (0 : Int32)) w5 ∧ hw_b (0 : Int32) ∧ (∃ w6 : hw_H, hw_p w5 a0 2 5 (.int (0 : Int32)) w6 ∧ hw_b (0 : Int32) ∧ (∃ w7 : hw_H, hw_p w6 a0 2 6 (.int (1 : Int32)) w7 ∧ hw_b (1 : Int32) ∧ (∃ w8 : hw_H, hw_p w7 a0 2 7 (.int (0 : Int32)) w8 ∧ (∃ w9 : hw_H, hw_p w8 a0 2 10 (.int (0 : Int32)) w9 ∧ (∃ w10 : hw_H, hw_p w9 a0 2 12 (.int (0 : Int32)) w10 ∧ (PR k n w10))))))))))) ∧ ((¬ x_1 ≤ x2) → (∃ b_11 : Nat, hw_g w a0 2 0 (.ref b_11) ∧ (∃ b_12 : Nat, hw_g w a1 3 1 (.ref b_12) ∧ (∃ b_13 : Nat, hw_ar g w b_12 x2 (some b_13) ∧ (∃ x_14 : Int32, hw_g w b_13 5 3 (.int x_14) ∧ (∃ w15 : hw_H, hw_as g 0 w b_11 x2 x_14 w15 ∧ (K k n 10 [some (.ref a0), some (.ref a1), some (.int (x2 + 1))] [] w15))))))))
set_option maxHeartbeats 4000000 in
set_option maxRecDepth 100000 in
theorem sg_Se_begin_10 (X : hw_X p m c cb_Se_begin 3 s args (mw_Se_begin) "ProofCourt$Search" g A) {K : Nat → Nat → Nat → List (Option Value) → List Value → hw_H → Prop} {PR : Nat → Nat → hw_H → Prop} (hK : ∀ (k n pc : Nat) (lv : List (Option Value)) (st : List Value) (w : hw_H), K k n pc lv st w → hw_J p l e R s m args below meth c Q 3 g A k n pc lv st w) (rt : ∀ {k n pc : Nat} {lv : List (Option Value)} {w : hw_H}, decode cb_Se_begin pc = .ok (.return_, 1) → PR k n w → hw_J p l e R s m args below meth c Q 3 g A k n pc lv [] w) {a0 : Nat} {a1 : Nat} {x2 : Int32} (vc : vc_Se_begin_10 l g R K PR k n a0 a1 x2 w) : hw_J p l e R s m args below meth c Q 3 g A k n 10 [some (.ref a0), some (.ref a1), some (.int x2)] [] w := by
  unfold vc_Se_begin_10 at vc
  refine hw_iload_n X dd_Se_begin_10 rfl ?_
  refine hw_aload_n X (Or.inr ⟨_, rfl⟩) dd_Se_begin_11 rfl ?_
  obtain ⟨x_1, h9, vc⟩ := vc
  refine hw_get X (fe_Se_33 X) h9 dd_Se_begin_12 ?_
  refine hw_icmp_ge X (tgt := 39) dd_Se_begin_15 rfl (fun hc => ?_) (fun hc => ?_)
  · have vc := vc.1 hc
    refine hw_aload_n X (Or.inr ⟨_, rfl⟩) dd_Se_begin_39 rfl ?_
    refine hw_aload_n X (Or.inr ⟨_, rfl⟩) dd_Se_begin_40 rfl ?_
    obtain ⟨x_2, h9, vc⟩ := vc
    refine hw_get X (fe_Se_42 X) h9 dd_Se_begin_41 ?_
    obtain ⟨w3, h9, vc⟩ := vc
    refine hw_put X (fp_Se_45 X) rfl rfl h9 dd_Se_begin_44 ?_
    refine hw_aload_n X (Or.inr ⟨_, rfl⟩) dd_Se_begin_47 rfl ?_
    refine hw_iconst X (v := 0) dd_Se_begin_48 (by decide) ?_
    obtain ⟨w4, h9, h8, vc⟩ := vc
    refine hw_put X (fp_Se_46 X) (hw_b_nar h8) (hw_b_fit h8) h9 dd_Se_begin_49 ?_
    refine hw_aload_n X (Or.inr ⟨_, rfl⟩) dd_Se_begin_52 rfl ?_
    refine hw_iconst X (v := 0) dd_Se_begin_53 (by decide) ?_
    obtain ⟨w5, h9, h8, vc⟩ := vc
    refine hw_put X (fp_Se_50 X) (hw_b_nar h8) (hw_b_fit h8) h9 dd_Se_begin_54 ?_
    refine hw_aload_n X (Or.inr ⟨_, rfl⟩) dd_Se_begin_57 rfl ?_
    refine hw_iconst X (v := 0) dd_Se_begin_58 (by decide) ?_
    obtain ⟨w6, h9, h8, vc⟩ := vc
    refine hw_put X (fp_Se_53 X) (hw_b_nar h8) (hw_b_fit h8) h9 dd_Se_begin_59 ?_
    refine hw_aload_n X (Or.inr ⟨_, rfl⟩) dd_Se_begin_62 rfl ?_
    refine hw_iconst X (v := 1) dd_Se_begin_63 (by decide) ?_
    obtain ⟨w7, h9, h8, vc⟩ := vc
    refine hw_put X (fp_Se_56 X) (hw_b_nar h8) (hw_b_fit h8) h9 dd_Se_begin_64 ?_
    refine hw_aload_n X (Or.inr ⟨_, rfl⟩) dd_Se_begin_67 rfl ?_
    refine hw_iconst X (v := 0) dd_Se_begin_68 (by decide) ?_
    obtain ⟨w8, h9, vc⟩ := vc
    refine hw_put X (fp_Se_59 X) rfl rfl h9 dd_Se_begin_69 ?_
    refine hw_aload_n X (Or.inr ⟨_, rfl⟩) dd_Se_begin_72 rfl ?_
    refine hw_iconst X (v := 0) dd_Se_begin_73 (by decide) ?_
    obtain ⟨w9, h9, vc⟩ := vc
    refine hw_put X (fp_Se_62 X) rfl rfl h9 dd_Se_begin_74 ?_
    refine hw_aload_n X (Or.inr ⟨_, rfl⟩) dd_Se_begin_77 rfl ?_
    refine hw_iconst X (v := 0) dd_Se_begin_78 (by decide) ?_
    obtain ⟨w10, h9, vc⟩ := vc
    refine hw_put X (fp_Se_65 X) rfl rfl h9 dd_Se_begin_79 ?_
    exact rt dd_Se_begin_82 vc
  · have vc := vc.2 hc
    refine hw_aload_n X (Or.inr ⟨_, rfl⟩) dd_Se_begin_18 rfl ?_
    obtain ⟨b_11, h9, vc⟩ := vc
    refine hw_get X (fe_Se_9 X) h9 dd_Se_begin_19 ?_
    refine hw_iload_n X dd_Se_begin_22 rfl ?_
    refine hw_aload_n X (Or.inr ⟨_, rfl⟩) dd_Se_begin_23 rfl ?_
    obtain ⟨b_12, h9, vc⟩ := vc
    refine hw_get X (fe_Se_34 X) h9 dd_Se_begin_24 ?_
    refine hw_iload_n X dd_Se_begin_27 rfl ?_
    obtain ⟨b_13, h9, vc⟩ := vc
    refine hw_aald X h9 dd_Se_begin_28 ?_
    obtain ⟨x_14, h9, vc⟩ := vc
    refine hw_get X (fe_Se_37 X) h9 dd_Se_begin_29 ?_
    obtain ⟨w15, h9, vc⟩ := vc
    refine hw_iast X h9 dd_Se_begin_32 ?_
    refine hw_iinc X (v := (x2 + 1)) dd_Se_begin_33 rfl rfl (by decide) rfl ?_
    refine hw_goto X (tgt := 10) dd_Se_begin_36 rfl ?_
    exact hK _ _ _ _ _ _ vc
end
section
variable {p : Program} {l : Launch} {e : Env} {R : Room} {s : State} {m : MethodId} {args : Array Value} {below : List Frame} {meth : Method} {c : Code} {Q : State → Prop} {g : hw_G} {A : Nat → Prop} {k n : Nat} {w : hw_H}
def vc_Co_take_0 (l : Launch) (g : hw_G) (R : Room) (K : Nat → Nat → Nat → List (Option Value) → List Value → hw_H → Prop) (PR : Nat → Nat → hw_H → Prop) (k n : Nat) (a0 : Nat) (a1 : Nat) (w : hw_H) : Prop := ∃ w1 : hw_H, hw_p w a0 4 3 (.ref a1) w1 ∧ (∃ b_2 : Nat, hw_g w1 a0 4 1 (.ref b_2) ∧ (hw_o w1 b_2 "ProofCourt$Proof" ∧ hw_cv l g R k n ym_Pr_begin (mw_Pr_begin) 3 [.ref b_2, .ref a1] w1 (fun (k4 n5 : Nat) (w3 : hw_H) => ∃ b_6 : Nat, hw_g w3 a0 4 2 (.ref b_6) ∧ (hw_o w3 b_6 "ProofCourt$Search" ∧ hw_cv l g R k4 n5 ym_Se_begin (mw_Se_begin) 3 [.ref b_6, .ref a1] w3 (fun (k8 n9 : Nat) (w7 : hw_H) => PR k8 n9 w7)))))
set_option maxHeartbeats 4000000 in
set_option maxRecDepth 100000 in
theorem sg_Co_take_0 (X : hw_X p m c cb_Co_take 2 s args (mw_Co_take) "ProofCourt" g A) {K : Nat → Nat → Nat → List (Option Value) → List Value → hw_H → Prop} {PR : Nat → Nat → hw_H → Prop} (hK : ∀ (k n pc : Nat) (lv : List (Option Value)) (st : List Value) (w : hw_H), K k n pc lv st w → hw_J p l e R s m args below meth c Q 2 g A k n pc lv st w) (rt : ∀ {k n pc : Nat} {lv : List (Option Value)} {w : hw_H}, decode cb_Co_take pc = .ok (.return_, 1) → PR k n w → hw_J p l e R s m args below meth c Q 2 g A k n pc lv [] w) {a0 : Nat} {a1 : Nat} (vc : vc_Co_take_0 l g R K PR k n a0 a1 w) : hw_J p l e R s m args below meth c Q 2 g A k n 0 [some (.ref a0), some (.ref a1)] [] w := by
  unfold vc_Co_take_0 at vc
  refine hw_aload_n X (Or.inr ⟨_, rfl⟩) dd_Co_take_0 rfl ?_
  refine hw_aload_n X (Or.inr ⟨_, rfl⟩) dd_Co_take_1 rfl ?_
  obtain ⟨w1, h9, vc⟩ := vc
  refine hw_put X (fp_Co_57 X) rfl rfl h9 dd_Co_take_2 ?_
  refine hw_aload_n X (Or.inr ⟨_, rfl⟩) dd_Co_take_5 rfl ?_
  obtain ⟨b_2, h9, vc⟩ := vc
  refine hw_get X (fe_Co_19 X) h9 dd_Co_take_6 ?_
  refine hw_aload_n X (Or.inr ⟨_, rfl⟩) dd_Co_take_9 rfl ?_
  obtain ⟨hob, rm9, po9, hM9, hf9, hc9, vc⟩ := vc
  refine hw_callVv X (As := [.ref a1]) (ye_Co_130 X) hM9 rfl hf9 hc9 hob (Nat.le_of_ble_eq_true rfl) rfl dd_Co_take_10 (fun w3 hp => ?_)
  have vc := vc w3 hp
  refine hw_aload_n X (Or.inr ⟨_, rfl⟩) dd_Co_take_13 rfl ?_
  obtain ⟨b_6, h9, vc⟩ := vc
  refine hw_get X (fe_Co_26 X) h9 dd_Co_take_14 ?_
  refine hw_aload_n X (Or.inr ⟨_, rfl⟩) dd_Co_take_17 rfl ?_
  obtain ⟨hob, rm9, po9, hM9, hf9, hc9, vc⟩ := vc
  refine hw_callVv X (As := [.ref a1]) (ye_Co_133 X) hM9 rfl hf9 hc9 hob (Nat.le_of_ble_eq_true rfl) rfl dd_Co_take_18 (fun w7 hp => ?_)
  have vc := vc w7 hp
  exact rt dd_Co_take_21 vc
end
section
variable {p : Program} {l : Launch} {e : Env} {R : Room} {s : State} {m : MethodId} {args : Array Value} {below : List Frame} {meth : Method} {c : Code} {Q : State → Prop} {g : hw_G} {A : Nat → Prop} {k n : Nat} {w : hw_H}
def vc_Co_init_0 (l : Launch) (g : hw_G) (R : Room) (K : Nat → Nat → Nat → List (Option Value) → List Value → hw_H → Prop) (PR : Nat → Nat → hw_H → Prop) (k n : Nat) (a0 : Nat) (w : hw_H) : Prop := (k + 1 ≤ R.cells ∧ n + 6 ≤ R.slots) ∧ ∀ (q1 : Nat) (w2 : hw_H), w q1 = none → w2 = va_up w q1 (some (.inr (0, [.null, .int 0, .int 0, .int 0, .int 0, .int 0]))) → (hw_cv l g R (k + 1) (n + 6) ym_Te_init (mw_Te_init) 1 [.ref q1] w2 (fun (k4 n5 : Nat) (w3 : hw_H) => ∃ w6 : hw_H, hw_p w3 a0 4 0 (.ref q1) w6 ∧ ((k4 + 1 ≤ R.cells ∧ n5 + 4 ≤ R.slots) ∧ ∀ (q7 : Nat) (w8 : hw_H), w6 q7 = none → w8 = va_up w6 q7 (some (.inr (1, [.null, .int 0, .int 0, .int 0]))) → (hw_cv l g R (k4 + 1) (n5 + 4) ym_Pr_init (mw_Pr_init) 1 [.ref q7] w8 (fun (k10 n11 : Nat) (w9 : hw_H) => ∃ w12 : hw_H, hw_p w9 a0 4 1 (.ref q7) w12 ∧ ((k10 + 1 ≤ R.cells ∧ n11 + 15 ≤ R.slots) ∧ ∀ (q13 : Nat) (w14 : hw_H), w12 q13 = none → w14 = va_up w12 q13 (some (.inr (2, [.null, .int 0, .int 0, .int 0, .int 0, .int 0, .int 0, .int 0, .null, .null, .int 0, .null, .int 0, .null, .int 0]))) → (hw_cv l g R (k10 + 1) (n11 + 15) ym_Se_init (mw_Se_init) 1 [.ref q13] w14 (fun (k16 n17 : Nat) (w15 : hw_H) => ∃ w18 : hw_H, hw_p w15 a0 4 2 (.ref q13) w18 ∧ ((k16 + 1 ≤ R.cells ∧ n17 + 4 ≤ R.slots) ∧ ∀ (q19 : Nat) (w20 : hw_H), w18 q19 = none → w20 = va_up w18 q19 (some (.inr (3, [.int 0, .null, .int 0, .int 0]))) → (hw_cv l g R (k16 + 1) (n17 + 4) ym_Fo_init (mw_Fo_init) 2 [.ref q19, .int (0 : Int32)] w20 (fun (k22 n23 : Nat) (w21 : hw_H) => hw_o w21 a0 "ProofCourt" ∧ hw_cv l g R k22 n23 ym_Co_take (mw_Co_take) 2 [.ref a0, .ref q19] w21 (fun (k25 n26 : Nat) (w24 : hw_H) => PR k25 n26 w24))))))))))))
set_option maxHeartbeats 4000000 in
set_option maxRecDepth 100000 in
theorem sg_Co_init_0 (X : hw_X p m c cb_Co_init 1 s args (mw_Co_init) "ProofCourt" g A) (hin : meth.name = "<init>") (hRm : 1 ≤ R.frames ∧ 20 ≤ R.locals) {K : Nat → Nat → Nat → List (Option Value) → List Value → hw_H → Prop} {PR : Nat → Nat → hw_H → Prop} (hK : ∀ (k n pc : Nat) (lv : List (Option Value)) (st : List Value) (w : hw_H), K k n pc lv st w → hw_J p l e R s m args below meth c Q 1 g A k n pc lv st w) (rt : ∀ {k n pc : Nat} {lv : List (Option Value)} {w : hw_H}, decode cb_Co_init pc = .ok (.return_, 1) → PR k n w → hw_J p l e R s m args below meth c Q 1 g A k n pc lv [] w) {a0 : Nat} (vc : vc_Co_init_0 l g R K PR k n a0 w) : hw_J p l e R s m args below meth c Q 1 g A k n 0 [some (.ref a0)] [] w := by
  unfold vc_Co_init_0 at vc
  refine hw_aload_n X (Or.inr ⟨_, rfl⟩) dd_Co_init_0 rfl ?_
  refine hw_objInit X (oi_Co_3 X) (oj_Co X) (ok_Co X) (hw_oi1 hRm) (hw_oi2 hRm) (by decide) dd_Co_init_1 ?_
  refine hw_aload_n X (Or.inr ⟨_, rfl⟩) dd_Co_init_4 rfl ?_
  refine hw_new X (ne_Co_9 X) vc.1.1 vc.1.2 dd_Co_init_5 (fun q1 hq => ?_)
  have vc := vc.2 q1 _ hq rfl
  refine hw_dup X rfl dd_Co_init_8 ?_
  obtain ⟨rm9, po9, hM9, hf9, hc9, vc⟩ := vc
  refine hw_callIv X (As := []) (ye_Co_11 X) hM9 rfl hf9 hc9 (Nat.le_of_ble_eq_true rfl) rfl dd_Co_init_9 (fun w3 hp => ?_)
  have vc := vc w3 hp
  obtain ⟨w6, h9, vc⟩ := vc
  refine hw_putF X (ff_Co_12 X) hin rfl rfl h9 dd_Co_init_12 ?_
  refine hw_aload_n X (Or.inr ⟨_, rfl⟩) dd_Co_init_15 rfl ?_
  refine hw_new X (ne_Co_16 X) vc.1.1 vc.1.2 dd_Co_init_16 (fun q7 hq => ?_)
  have vc := vc.2 q7 _ hq rfl
  refine hw_dup X rfl dd_Co_init_19 ?_
  obtain ⟨rm9, po9, hM9, hf9, hc9, vc⟩ := vc
  refine hw_callIv X (As := []) (ye_Co_18 X) hM9 rfl hf9 hc9 (Nat.le_of_ble_eq_true rfl) rfl dd_Co_init_20 (fun w9 hp => ?_)
  have vc := vc w9 hp
  obtain ⟨w12, h9, vc⟩ := vc
  refine hw_putF X (ff_Co_19 X) hin rfl rfl h9 dd_Co_init_23 ?_
  refine hw_aload_n X (Or.inr ⟨_, rfl⟩) dd_Co_init_26 rfl ?_
  refine hw_new X (ne_Co_23 X) vc.1.1 vc.1.2 dd_Co_init_27 (fun q13 hq => ?_)
  have vc := vc.2 q13 _ hq rfl
  refine hw_dup X rfl dd_Co_init_30 ?_
  obtain ⟨rm9, po9, hM9, hf9, hc9, vc⟩ := vc
  refine hw_callIv X (As := []) (ye_Co_25 X) hM9 rfl hf9 hc9 (Nat.le_of_ble_eq_true rfl) rfl dd_Co_init_31 (fun w15 hp => ?_)
  have vc := vc w15 hp
  obtain ⟨w18, h9, vc⟩ := vc
  refine hw_putF X (ff_Co_26 X) hin rfl rfl h9 dd_Co_init_34 ?_
  refine hw_aload_n X (Or.inr ⟨_, rfl⟩) dd_Co_init_37 rfl ?_
  refine hw_new X (ne_Co_30 X) vc.1.1 vc.1.2 dd_Co_init_38 (fun q19 hq => ?_)
  have vc := vc.2 q19 _ hq rfl
  refine hw_dup X rfl dd_Co_init_41 ?_
  refine hw_iconst X (v := 0) dd_Co_init_42 (by decide) ?_
  obtain ⟨rm9, po9, hM9, hf9, hc9, vc⟩ := vc
  refine hw_callIv X (As := [.int (0 : Int32)]) (ye_Co_32 X) hM9 rfl hf9 hc9 (Nat.le_of_ble_eq_true rfl) rfl dd_Co_init_43 (fun w21 hp => ?_)
  have vc := vc w21 hp
  obtain ⟨hob, rm9, po9, hM9, hf9, hc9, vc⟩ := vc
  refine hw_callVv X (As := [.ref q19]) (ye_Co_35 X) hM9 rfl hf9 hc9 hob (Nat.le_of_ble_eq_true rfl) rfl dd_Co_init_46 (fun w24 hp => ?_)
  have vc := vc w24 hp
  exact rt dd_Co_init_49 vc
end
section
variable {p : Program} {l : Launch} {e : Env} {R : Room} {s : State} {m : MethodId} {args : Array Value} {below : List Frame} {meth : Method} {c : Code} {Q : State → Prop} {g : hw_G} {A : Nat → Prop} {k n : Nat} {w : hw_H}
def vc_Co_type_0 (l : Launch) (g : hw_G) (R : Room) (K : Nat → Nat → Nat → List (Option Value) → List Value → hw_H → Prop) (PR : Nat → Nat → Int32 → hw_H → Prop) (k n : Nat) (a0 : Nat) (x1 : Int32) (x2 : Int32) (w : hw_H) : Prop := ∃ b_1 : Nat, hw_g w a0 4 0 (.ref b_1) ∧ (hw_o w b_1 "ProofCourt$Text" ∧ hw_ci l g R k n ym_Te_append (mw_Te_append) 4 [.ref b_1, .int x1, .int x2] w (fun (k3 n4 : Nat) (x_5 : Int32) (w2 : hw_H) => PR k3 n4 x_5 w2))
set_option maxHeartbeats 4000000 in
set_option maxRecDepth 100000 in
theorem sg_Co_type_0 (X : hw_X p m c cb_Co_type 3 s args (mw_Co_type) "ProofCourt" g A) {K : Nat → Nat → Nat → List (Option Value) → List Value → hw_H → Prop} {PR : Nat → Nat → Int32 → hw_H → Prop} (hK : ∀ (k n pc : Nat) (lv : List (Option Value)) (st : List Value) (w : hw_H), K k n pc lv st w → hw_J p l e R s m args below meth c Q 3 g A k n pc lv st w) (rt : ∀ {k n pc : Nat} {lv : List (Option Value)} {x : Int32} {w : hw_H}, decode cb_Co_type pc = .ok (.ireturn, 1) → PR k n x w → hw_J p l e R s m args below meth c Q 3 g A k n pc lv [.int x] w) {a0 : Nat} {x1 : Int32} {x2 : Int32} (vc : vc_Co_type_0 l g R K PR k n a0 x1 x2 w) : hw_J p l e R s m args below meth c Q 3 g A k n 0 [some (.ref a0), some (.int x1), some (.int x2)] [] w := by
  unfold vc_Co_type_0 at vc
  refine hw_aload_n X (Or.inr ⟨_, rfl⟩) dd_Co_type_0 rfl ?_
  obtain ⟨b_1, h9, vc⟩ := vc
  refine hw_get X (fe_Co_12 X) h9 dd_Co_type_1 ?_
  refine hw_iload_n X dd_Co_type_4 rfl ?_
  refine hw_iload_n X dd_Co_type_5 rfl ?_
  obtain ⟨hob, rm9, po9, hM9, hf9, hc9, vc⟩ := vc
  refine hw_callVi X (As := [.int x1, .int x2]) (ye_Co_39 X) hM9 rfl hf9 hc9 hob (Nat.le_of_ble_eq_true rfl) rfl dd_Co_type_6 (fun x_5 w2 hp => ?_)
  have vc := vc x_5 w2 hp
  exact rt dd_Co_type_9 vc
end
end
section
/-! Text: its small methods, append, clear. -/
def hw_z (b : Bool) : Int32 := if b = true then 1 else 0
theorem hw_z_b (b : Bool) : hw_b (hw_z b) := by
  cases b
  · exact Or.inl rfl
  · exact Or.inr rfl
theorem hw_z_ne (b : Bool) : (¬ hw_z b = 0) ↔ b = true := by cases b <;> decide
theorem hw_z_eq (b : Bool) : (hw_z b = 0) ↔ b = false := by cases b <;> decide
def tx_bl (c : Int32) : Bool := decide (c = 32) || decide (c = 10)
def tx_ch (c : Int32) : Bool := decide (c = 10) || (!decide (c < 32) && !decide (126 < c))
def tx_by (x : Int32) (i : Nat) : Int32 := (x >>> (((8 : Int32) * nI i) &&& 31)) &&& 255
abbrev tx_o (TC : Nat) (len sk st en nu : Int32) : va_E := .inr (0, [.ref TC, .int len, .int sk, .int st, .int en, .int nu])
theorem hw_00 : 0 ≤ 0 ∧ 0 ≤ 0 := ⟨Nat.le_refl _, Nat.le_refl _⟩
set_option maxHeartbeats 4000000 in
set_option maxRecDepth 100000 in
theorem ct_Te_byteOf (l : Launch) (g : hw_G) (w : hw_H) (x i : Int32) : hw_Mi l g ym_Te_byteOf mw_Te_byteOf (hw_R 1 0 0) [.int x, .int i] w (fun r w' => r = (x >>> ((8 * i) &&& 31)) &&& 255 ∧ w' = w) := by
  refine hw_enteri (r := 0) rfl rfl (by simp [Value.category]) (by decide) ?_
  intro p e s m args below meth c A X hr hlk hnm
  refine sg_Te_byteOf_0 X (fun _ _ _ _ _ _ h => h) (hw_rti X hr hlk) ?_
  unfold vc_Te_byteOf_0
  exact ⟨hw_00, rfl, rfl⟩
set_option maxHeartbeats 4000000 in
set_option maxRecDepth 100000 in
theorem ct_Te_isCharacter (l : Launch) (g : hw_G) (w : hw_H) (x : Int32) : hw_Mi l g ym_Te_isCharacter mw_Te_isCharacter (hw_R 1 0 0) [.int x] w (fun r w' => r = hw_z (tx_ch x) ∧ w' = w) := by
  refine hw_enteri (r := 0) rfl rfl (by simp [Value.category]) (by decide) ?_
  intro p e s m args below meth c A X hr hlk hnm
  refine sg_Te_isCharacter_0 X (fun _ _ _ _ _ _ h => h) (hw_rtz X hr hlk) ?_
  unfold vc_Te_isCharacter_0
  refine ⟨fun h => ⟨hw_00, Or.inr rfl, by simp [tx_ch, hw_z, h], rfl⟩, fun h => ⟨fun h2 => ⟨hw_00, Or.inl rfl, by simp [tx_ch, hw_z, h, h2], rfl⟩, fun h2 => ⟨fun h3 => ⟨hw_00, Or.inl rfl, by simp [tx_ch, hw_z, h, h3], rfl⟩, fun h3 => ⟨hw_00, Or.inr rfl, by simp [tx_ch, hw_z, h, h2, h3], rfl⟩⟩⟩⟩
set_option maxHeartbeats 4000000 in
set_option maxRecDepth 100000 in
theorem ct_Te_isBlank (l : Launch) (g : hw_G) (w : hw_H) (x : Int32) : hw_Mi l g ym_Te_isBlank mw_Te_isBlank (hw_R 1 0 0) [.int x] w (fun r w' => r = hw_z (tx_bl x) ∧ w' = w) := by
  refine hw_enteri (r := 0) rfl rfl (by simp [Value.category]) (by decide) ?_
  intro p e s m args below meth c A X hr hlk hnm
  refine sg_Te_isBlank_0 X (fun _ _ _ _ _ _ h => h) (hw_rtz X hr hlk) ?_
  unfold vc_Te_isBlank_0
  refine ⟨fun h => ⟨hw_00, Or.inr rfl, by simp [tx_bl, hw_z, h], rfl⟩, fun h => ⟨fun h2 => ⟨hw_00, Or.inl rfl, by simp [tx_bl, hw_z, h, h2], rfl⟩, fun h2 => ⟨hw_00, Or.inr rfl, by simp [tx_bl, hw_z, h2], rfl⟩⟩⟩
set_option maxHeartbeats 4000000 in
set_option maxRecDepth 100000 in
theorem ct_Te_clear (l : Launch) (g : hw_G) (w : hw_H) {T TC : Nat} {len sk st en nu : Int32} (hT : w T = some (tx_o TC len sk st en nu)) : hw_Mv l g ym_Te_clear mw_Te_clear (hw_R 1 0 0) [.ref T] w (fun w' => w' = va_up w T (some (tx_o TC 0 sk st en nu))) := by
  refine hw_enterv (r := 0) rfl rfl (by simp [Value.category]) (by decide) ?_
  intro p e s m args below meth c A X hr hlk hnm
  refine sg_Te_clear_0 X (fun _ _ _ _ _ _ h => h) (hw_rtv X hr hlk) ?_
  unfold vc_Te_clear_0
  exact ⟨_, ⟨_, hT, Nat.le_of_ble_eq_true rfl, rfl⟩, hw_00, rfl⟩
end
