section
-- ===== PART A: goes FIRST, ahead of the names: the tables' words, and 'selects' of the private methods out of them =====
/-- a private method of a class that the tables say can be made, by its rows of tables_1 -/
def lw_okq (q : MethodName × Nat) : Prop := (q.1.cls ≠ "java/lang/invoke/MethodHandle" ∧ q.1.cls ≠ "java/lang/invoke/VarHandle") ∧ Cond.instantiable q.1.cls q.2 ∈ tables_1 ∧ Cond.privateMethod q.1 ∈ tables_1 ∧ Cond.instanceMethod q.1 ∈ tables_1
theorem lw_p0 : lw_okq (⟨"ScopeLines$Parser", "hasBlank", "()Z"⟩, 15) := ⟨⟨by decide +kernel, by decide +kernel⟩, List.mem_of_getElem? (i := 23) (by decide +kernel), List.mem_of_getElem? (i := 396) (by decide +kernel), List.mem_of_getElem? (i := 397) (by decide +kernel)⟩
theorem lw_p1 : lw_okq (⟨"ScopeLines$Parser", "openLevel", "(I)V"⟩, 15) := ⟨⟨by decide +kernel, by decide +kernel⟩, List.mem_of_getElem? (i := 23) (by decide +kernel), List.mem_of_getElem? (i := 404) (by decide +kernel), List.mem_of_getElem? (i := 405) (by decide +kernel)⟩
theorem lw_p2 : lw_okq (⟨"ScopeLines$Parser", "readNext", "(LScopeLines$Pattern;)V"⟩, 15) := ⟨⟨by decide +kernel, by decide +kernel⟩, List.mem_of_getElem? (i := 23) (by decide +kernel), List.mem_of_getElem? (i := 408) (by decide +kernel), List.mem_of_getElem? (i := 409) (by decide +kernel)⟩
theorem lw_p3 : lw_okq (⟨"ScopeLines$Parser", "endBranch", "(LScopeLines$Pattern;)V"⟩, 15) := ⟨⟨by decide +kernel, by decide +kernel⟩, List.mem_of_getElem? (i := 23) (by decide +kernel), List.mem_of_getElem? (i := 412) (by decide +kernel), List.mem_of_getElem? (i := 413) (by decide +kernel)⟩
theorem lw_p4 : lw_okq (⟨"ScopeLines$Parser", "openGroup", "(LScopeLines$Pattern;)V"⟩, 15) := ⟨⟨by decide +kernel, by decide +kernel⟩, List.mem_of_getElem? (i := 23) (by decide +kernel), List.mem_of_getElem? (i := 428) (by decide +kernel), List.mem_of_getElem? (i := 429) (by decide +kernel)⟩
theorem lw_p5 : lw_okq (⟨"ScopeLines$Parser", "closeGroup", "(LScopeLines$Pattern;)V"⟩, 15) := ⟨⟨by decide +kernel, by decide +kernel⟩, List.mem_of_getElem? (i := 23) (by decide +kernel), List.mem_of_getElem? (i := 433) (by decide +kernel), List.mem_of_getElem? (i := 434) (by decide +kernel)⟩
theorem lw_p6 : lw_okq (⟨"ScopeLines$Parser", "closeLevel", "(LScopeLines$Pattern;)Z"⟩, 15) := ⟨⟨by decide +kernel, by decide +kernel⟩, List.mem_of_getElem? (i := 23) (by decide +kernel), List.mem_of_getElem? (i := 437) (by decide +kernel), List.mem_of_getElem? (i := 438) (by decide +kernel)⟩
theorem lw_p7 : lw_okq (⟨"ScopeLines$Parser", "readQuantifier", "(IZLScopeLines$Pattern;)V"⟩, 15) := ⟨⟨by decide +kernel, by decide +kernel⟩, List.mem_of_getElem? (i := 23) (by decide +kernel), List.mem_of_getElem? (i := 445) (by decide +kernel), List.mem_of_getElem? (i := 446) (by decide +kernel)⟩
theorem lw_p8 : lw_okq (⟨"ScopeLines$Pattern", "insertSplit", "(IIIZ)V"⟩, 7) := ⟨⟨by decide +kernel, by decide +kernel⟩, List.mem_of_getElem? (i := 197) (by decide +kernel), List.mem_of_getElem? (i := 453) (by decide +kernel), List.mem_of_getElem? (i := 454) (by decide +kernel)⟩
theorem lw_p9 : lw_okq (⟨"ScopeLines$Parser", "readAtom", "(CLScopeLines$Pattern;)Z"⟩, 15) := ⟨⟨by decide +kernel, by decide +kernel⟩, List.mem_of_getElem? (i := 23) (by decide +kernel), List.mem_of_getElem? (i := 457) (by decide +kernel), List.mem_of_getElem? (i := 458) (by decide +kernel)⟩
theorem lw_p10 : lw_okq (⟨"ScopeLines$Parser", "readSet", "(LScopeLines$Pattern;)V"⟩, 15) := ⟨⟨by decide +kernel, by decide +kernel⟩, List.mem_of_getElem? (i := 23) (by decide +kernel), List.mem_of_getElem? (i := 461) (by decide +kernel), List.mem_of_getElem? (i := 462) (by decide +kernel)⟩
theorem lw_p11 : lw_okq (⟨"ScopeLines$Parser", "readItem", "()V"⟩, 15) := ⟨⟨by decide +kernel, by decide +kernel⟩, List.mem_of_getElem? (i := 23) (by decide +kernel), List.mem_of_getElem? (i := 465) (by decide +kernel), List.mem_of_getElem? (i := 466) (by decide +kernel)⟩
theorem lw_p12 : lw_okq (⟨"ScopeLines$Parser", "readEscape", "(LScopeLines$Pattern;)Z"⟩, 15) := ⟨⟨by decide +kernel, by decide +kernel⟩, List.mem_of_getElem? (i := 23) (by decide +kernel), List.mem_of_getElem? (i := 474) (by decide +kernel), List.mem_of_getElem? (i := 475) (by decide +kernel)⟩
theorem lw_p13 : lw_okq (⟨"ScopeLines", "addRule", "(IIZ)I"⟩, 10) := ⟨⟨by decide +kernel, by decide +kernel⟩, List.mem_of_getElem? (i := 15) (by decide +kernel), List.mem_of_getElem? (i := 478) (by decide +kernel), List.mem_of_getElem? (i := 479) (by decide +kernel)⟩
theorem lw_p14 : lw_okq (⟨"ScopeLines", "tokenizeFrom", "(IZ)I"⟩, 10) := ⟨⟨by decide +kernel, by decide +kernel⟩, List.mem_of_getElem? (i := 15) (by decide +kernel), List.mem_of_getElem? (i := 487) (by decide +kernel), List.mem_of_getElem? (i := 488) (by decide +kernel)⟩
theorem lw_p15 : lw_okq (⟨"ScopeLines$Grammar", "findWinner", "(LScopeLines$Line;I)Z"⟩, 10) := ⟨⟨by decide +kernel, by decide +kernel⟩, List.mem_of_getElem? (i := 124) (by decide +kernel), List.mem_of_getElem? (i := 501) (by decide +kernel), List.mem_of_getElem? (i := 502) (by decide +kernel)⟩
def lw_privs_1 : List (MethodName × Nat) := [(⟨"ScopeLines$Parser", "hasBlank", "()Z"⟩, 15), (⟨"ScopeLines$Parser", "openLevel", "(I)V"⟩, 15), (⟨"ScopeLines$Parser", "readNext", "(LScopeLines$Pattern;)V"⟩, 15), (⟨"ScopeLines$Parser", "endBranch", "(LScopeLines$Pattern;)V"⟩, 15), (⟨"ScopeLines$Parser", "openGroup", "(LScopeLines$Pattern;)V"⟩, 15), (⟨"ScopeLines$Parser", "closeGroup", "(LScopeLines$Pattern;)V"⟩, 15), (⟨"ScopeLines$Parser", "closeLevel", "(LScopeLines$Pattern;)Z"⟩, 15), (⟨"ScopeLines$Parser", "readQuantifier", "(IZLScopeLines$Pattern;)V"⟩, 15), (⟨"ScopeLines$Pattern", "insertSplit", "(IIIZ)V"⟩, 7), (⟨"ScopeLines$Parser", "readAtom", "(CLScopeLines$Pattern;)Z"⟩, 15), (⟨"ScopeLines$Parser", "readSet", "(LScopeLines$Pattern;)V"⟩, 15), (⟨"ScopeLines$Parser", "readItem", "()V"⟩, 15), (⟨"ScopeLines$Parser", "readEscape", "(LScopeLines$Pattern;)Z"⟩, 15), (⟨"ScopeLines", "addRule", "(IIZ)I"⟩, 10), (⟨"ScopeLines", "tokenizeFrom", "(IZ)I"⟩, 10), (⟨"ScopeLines$Grammar", "findWinner", "(LScopeLines$Line;I)Z"⟩, 10)]
theorem lw_r1 : ∀ q ∈ lw_privs_1, lw_okq q := List.forall_mem_cons.mpr ⟨lw_p0, List.forall_mem_cons.mpr ⟨lw_p1, List.forall_mem_cons.mpr ⟨lw_p2, List.forall_mem_cons.mpr ⟨lw_p3, List.forall_mem_cons.mpr ⟨lw_p4, List.forall_mem_cons.mpr ⟨lw_p5, List.forall_mem_cons.mpr ⟨lw_p6, List.forall_mem_cons.mpr ⟨lw_p7, List.forall_mem_cons.mpr ⟨lw_p8, List.forall_mem_cons.mpr ⟨lw_p9, List.forall_mem_cons.mpr ⟨lw_p10, List.forall_mem_cons.mpr ⟨lw_p11, List.forall_mem_cons.mpr ⟨lw_p12, List.forall_mem_cons.mpr ⟨lw_p13, List.forall_mem_cons.mpr ⟨lw_p14, List.forall_mem_cons.mpr ⟨lw_p15, fun _ h => absurd h List.not_mem_nil⟩⟩⟩⟩⟩⟩⟩⟩⟩⟩⟩⟩⟩⟩⟩⟩
theorem lw_p16 : lw_okq (⟨"ScopeLines$Grammar", "listCandidates", "()V"⟩, 10) := ⟨⟨by decide +kernel, by decide +kernel⟩, List.mem_of_getElem? (i := 124) (by decide +kernel), List.mem_of_getElem? (i := 509) (by decide +kernel), List.mem_of_getElem? (i := 510) (by decide +kernel)⟩
theorem lw_p17 : lw_okq (⟨"ScopeLines$Grammar", "listRulesOf", "(I)V"⟩, 10) := ⟨⟨by decide +kernel, by decide +kernel⟩, List.mem_of_getElem? (i := 124) (by decide +kernel), List.mem_of_getElem? (i := 513) (by decide +kernel), List.mem_of_getElem? (i := 514) (by decide +kernel)⟩
theorem lw_p18 : lw_okq (⟨"ScopeLines$Search", "doNext", "(LScopeLines$Pattern;LScopeLines$Line;LScopeLines$State;)Z"⟩, 12) := ⟨⟨by decide +kernel, by decide +kernel⟩, List.mem_of_getElem? (i := 140) (by decide +kernel), List.mem_of_getElem? (i := 524) (by decide +kernel), List.mem_of_getElem? (i := 525) (by decide +kernel)⟩
theorem lw_p19 : lw_okq (⟨"ScopeLines$Search", "leaveWaiting", "(II)V"⟩, 12) := ⟨⟨by decide +kernel, by decide +kernel⟩, List.mem_of_getElem? (i := 140) (by decide +kernel), List.mem_of_getElem? (i := 528) (by decide +kernel), List.mem_of_getElem? (i := 529) (by decide +kernel)⟩
theorem lw_p20 : lw_okq (⟨"ScopeLines$Search", "fitsText", "(LScopeLines$Line;LScopeLines$State;I)Z"⟩, 12) := ⟨⟨by decide +kernel, by decide +kernel⟩, List.mem_of_getElem? (i := 140) (by decide +kernel), List.mem_of_getElem? (i := 532) (by decide +kernel), List.mem_of_getElem? (i := 533) (by decide +kernel)⟩
theorem lw_p21 : lw_okq (⟨"ScopeLines$Search", "makeStep", "()Z"⟩, 12) := ⟨⟨by decide +kernel, by decide +kernel⟩, List.mem_of_getElem? (i := 140) (by decide +kernel), List.mem_of_getElem? (i := 540) (by decide +kernel), List.mem_of_getElem? (i := 541) (by decide +kernel)⟩
theorem lw_p22 : lw_okq (⟨"ScopeLines$Search", "fitsAtom", "(LScopeLines$Pattern;LScopeLines$Line;I)Z"⟩, 12) := ⟨⟨by decide +kernel, by decide +kernel⟩, List.mem_of_getElem? (i := 140) (by decide +kernel), List.mem_of_getElem? (i := 548) (by decide +kernel), List.mem_of_getElem? (i := 549) (by decide +kernel)⟩
theorem lw_p23 : lw_okq (⟨"ScopeLines$Search", "goBack", "()Z"⟩, 12) := ⟨⟨by decide +kernel, by decide +kernel⟩, List.mem_of_getElem? (i := 140) (by decide +kernel), List.mem_of_getElem? (i := 556) (by decide +kernel), List.mem_of_getElem? (i := 557) (by decide +kernel)⟩
theorem lw_p24 : lw_okq (⟨"ScopeLines$Grammar", "keepWinner", "(I)V"⟩, 10) := ⟨⟨by decide +kernel, by decide +kernel⟩, List.mem_of_getElem? (i := 124) (by decide +kernel), List.mem_of_getElem? (i := 560) (by decide +kernel), List.mem_of_getElem? (i := 561) (by decide +kernel)⟩
theorem lw_p25 : lw_okq (⟨"ScopeLines$Grammar", "mark", "(LScopeLines$Line;LScopeLines$State;)V"⟩, 10) := ⟨⟨by decide +kernel, by decide +kernel⟩, List.mem_of_getElem? (i := 124) (by decide +kernel), List.mem_of_getElem? (i := 565) (by decide +kernel), List.mem_of_getElem? (i := 566) (by decide +kernel)⟩
theorem lw_p26 : lw_okq (⟨"ScopeLines$Grammar", "cut", "(LScopeLines$Line;II)Z"⟩, 10) := ⟨⟨by decide +kernel, by decide +kernel⟩, List.mem_of_getElem? (i := 124) (by decide +kernel), List.mem_of_getElem? (i := 569) (by decide +kernel), List.mem_of_getElem? (i := 570) (by decide +kernel)⟩
theorem lw_p27 : lw_okq (⟨"ScopeLines$Grammar", "isLast", "(I)Z"⟩, 10) := ⟨⟨by decide +kernel, by decide +kernel⟩, List.mem_of_getElem? (i := 124) (by decide +kernel), List.mem_of_getElem? (i := 581) (by decide +kernel), List.mem_of_getElem? (i := 582) (by decide +kernel)⟩
theorem lw_p28 : lw_okq (⟨"ScopeLines$Grammar", "takeWinner", "(LScopeLines$Line;)V"⟩, 10) := ⟨⟨by decide +kernel, by decide +kernel⟩, List.mem_of_getElem? (i := 124) (by decide +kernel), List.mem_of_getElem? (i := 585) (by decide +kernel), List.mem_of_getElem? (i := 586) (by decide +kernel)⟩
theorem lw_p29 : lw_okq (⟨"ScopeLines$State", "isSameText", "(LScopeLines$State;I)Z"⟩, 4) := ⟨⟨by decide +kernel, by decide +kernel⟩, List.mem_of_getElem? (i := 100) (by decide +kernel), List.mem_of_getElem? (i := 601) (by decide +kernel), List.mem_of_getElem? (i := 602) (by decide +kernel)⟩
theorem lw_p30 : lw_okq (⟨"ScopeLines", "firstBlank", "()I"⟩, 10) := ⟨⟨by decide +kernel, by decide +kernel⟩, List.mem_of_getElem? (i := 15) (by decide +kernel), List.mem_of_getElem? (i := 609) (by decide +kernel), List.mem_of_getElem? (i := 610) (by decide +kernel)⟩
theorem lw_p31 : lw_okq (⟨"ScopeLines", "isLine", "(I)Z"⟩, 10) := ⟨⟨by decide +kernel, by decide +kernel⟩, List.mem_of_getElem? (i := 15) (by decide +kernel), List.mem_of_getElem? (i := 638) (by decide +kernel), List.mem_of_getElem? (i := 639) (by decide +kernel)⟩
def lw_privs_2 : List (MethodName × Nat) := [(⟨"ScopeLines$Grammar", "listCandidates", "()V"⟩, 10), (⟨"ScopeLines$Grammar", "listRulesOf", "(I)V"⟩, 10), (⟨"ScopeLines$Search", "doNext", "(LScopeLines$Pattern;LScopeLines$Line;LScopeLines$State;)Z"⟩, 12), (⟨"ScopeLines$Search", "leaveWaiting", "(II)V"⟩, 12), (⟨"ScopeLines$Search", "fitsText", "(LScopeLines$Line;LScopeLines$State;I)Z"⟩, 12), (⟨"ScopeLines$Search", "makeStep", "()Z"⟩, 12), (⟨"ScopeLines$Search", "fitsAtom", "(LScopeLines$Pattern;LScopeLines$Line;I)Z"⟩, 12), (⟨"ScopeLines$Search", "goBack", "()Z"⟩, 12), (⟨"ScopeLines$Grammar", "keepWinner", "(I)V"⟩, 10), (⟨"ScopeLines$Grammar", "mark", "(LScopeLines$Line;LScopeLines$State;)V"⟩, 10), (⟨"ScopeLines$Grammar", "cut", "(LScopeLines$Line;II)Z"⟩, 10), (⟨"ScopeLines$Grammar", "isLast", "(I)Z"⟩, 10), (⟨"ScopeLines$Grammar", "takeWinner", "(LScopeLines$Line;)V"⟩, 10), (⟨"ScopeLines$State", "isSameText", "(LScopeLines$State;I)Z"⟩, 4), (⟨"ScopeLines", "firstBlank", "()I"⟩, 10), (⟨"ScopeLines", "isLine", "(I)Z"⟩, 10)]
theorem lw_r2 : ∀ q ∈ lw_privs_2, lw_okq q := List.forall_mem_cons.mpr ⟨lw_p16, List.forall_mem_cons.mpr ⟨lw_p17, List.forall_mem_cons.mpr ⟨lw_p18, List.forall_mem_cons.mpr ⟨lw_p19, List.forall_mem_cons.mpr ⟨lw_p20, List.forall_mem_cons.mpr ⟨lw_p21, List.forall_mem_cons.mpr ⟨lw_p22, List.forall_mem_cons.mpr ⟨lw_p23, List.forall_mem_cons.mpr ⟨lw_p24, List.forall_mem_cons.mpr ⟨lw_p25, List.forall_mem_cons.mpr ⟨lw_p26, List.forall_mem_cons.mpr ⟨lw_p27, List.forall_mem_cons.mpr ⟨lw_p28, List.forall_mem_cons.mpr ⟨lw_p29, List.forall_mem_cons.mpr ⟨lw_p30, List.forall_mem_cons.mpr ⟨lw_p31, fun _ h => absurd h List.not_mem_nil⟩⟩⟩⟩⟩⟩⟩⟩⟩⟩⟩⟩⟩⟩⟩⟩
theorem lw_p32 : lw_okq (⟨"ScopeLines$Palette", "entryFor", "(LScopeLines$Line;II)I"⟩, 4) := ⟨⟨by decide +kernel, by decide +kernel⟩, List.mem_of_getElem? (i := 80) (by decide +kernel), List.mem_of_getElem? (i := 674) (by decide +kernel), List.mem_of_getElem? (i := 675) (by decide +kernel)⟩
theorem lw_p33 : lw_okq (⟨"ScopeLinesModel", "isRangeNumber", "(I)Z"⟩, 52) := ⟨⟨by decide +kernel, by decide +kernel⟩, List.mem_of_getElem? (i := 707) (by decide +kernel), List.mem_of_getElem? (i := 882) (by decide +kernel), List.mem_of_getElem? (i := 883) (by decide +kernel)⟩
theorem lw_p34 : lw_okq (⟨"ScopeLinesModel", "isPattern", "(IIZ)Z"⟩, 52) := ⟨⟨by decide +kernel, by decide +kernel⟩, List.mem_of_getElem? (i := 707) (by decide +kernel), List.mem_of_getElem? (i := 886) (by decide +kernel), List.mem_of_getElem? (i := 887) (by decide +kernel)⟩
theorem lw_p35 : lw_okq (⟨"ScopeLinesModel", "lift", "(III)V"⟩, 52) := ⟨⟨by decide +kernel, by decide +kernel⟩, List.mem_of_getElem? (i := 707) (by decide +kernel), List.mem_of_getElem? (i := 890) (by decide +kernel), List.mem_of_getElem? (i := 891) (by decide +kernel)⟩
theorem lw_p36 : lw_okq (⟨"ScopeLinesModel", "parse", "(IZ)Z"⟩, 52) := ⟨⟨by decide +kernel, by decide +kernel⟩, List.mem_of_getElem? (i := 707) (by decide +kernel), List.mem_of_getElem? (i := 894) (by decide +kernel), List.mem_of_getElem? (i := 895) (by decide +kernel)⟩
theorem lw_p37 : lw_okq (⟨"ScopeLinesModel", "at", "(II)I"⟩, 52) := ⟨⟨by decide +kernel, by decide +kernel⟩, List.mem_of_getElem? (i := 707) (by decide +kernel), List.mem_of_getElem? (i := 898) (by decide +kernel), List.mem_of_getElem? (i := 899) (by decide +kernel)⟩
theorem lw_p38 : lw_okq (⟨"ScopeLinesModel", "openLevel", "(II)V"⟩, 52) := ⟨⟨by decide +kernel, by decide +kernel⟩, List.mem_of_getElem? (i := 707) (by decide +kernel), List.mem_of_getElem? (i := 902) (by decide +kernel), List.mem_of_getElem? (i := 903) (by decide +kernel)⟩
theorem lw_p39 : lw_okq (⟨"ScopeLinesModel", "note", "(III)V"⟩, 52) := ⟨⟨by decide +kernel, by decide +kernel⟩, List.mem_of_getElem? (i := 707) (by decide +kernel), List.mem_of_getElem? (i := 906) (by decide +kernel), List.mem_of_getElem? (i := 907) (by decide +kernel)⟩
theorem lw_p40 : lw_okq (⟨"ScopeLinesModel", "quantified", "(IIIZI)I"⟩, 52) := ⟨⟨by decide +kernel, by decide +kernel⟩, List.mem_of_getElem? (i := 707) (by decide +kernel), List.mem_of_getElem? (i := 910) (by decide +kernel), List.mem_of_getElem? (i := 911) (by decide +kernel)⟩
theorem lw_p41 : lw_okq (⟨"ScopeLinesModel", "isRef", "(II)Z"⟩, 52) := ⟨⟨by decide +kernel, by decide +kernel⟩, List.mem_of_getElem? (i := 707) (by decide +kernel), List.mem_of_getElem? (i := 914) (by decide +kernel), List.mem_of_getElem? (i := 915) (by decide +kernel)⟩
theorem lw_p42 : lw_okq (⟨"ScopeLinesModel", "simple", "(IIZ)I"⟩, 52) := ⟨⟨by decide +kernel, by decide +kernel⟩, List.mem_of_getElem? (i := 707) (by decide +kernel), List.mem_of_getElem? (i := 918) (by decide +kernel), List.mem_of_getElem? (i := 919) (by decide +kernel)⟩
theorem lw_p43 : lw_okq (⟨"ScopeLinesModel", "items", "(II)I"⟩, 52) := ⟨⟨by decide +kernel, by decide +kernel⟩, List.mem_of_getElem? (i := 707) (by decide +kernel), List.mem_of_getElem? (i := 922) (by decide +kernel), List.mem_of_getElem? (i := 923) (by decide +kernel)⟩
theorem lw_p44 : lw_okq (⟨"ScopeLinesModel", "make", "(IIZI)I"⟩, 52) := ⟨⟨by decide +kernel, by decide +kernel⟩, List.mem_of_getElem? (i := 707) (by decide +kernel), List.mem_of_getElem? (i := 929) (by decide +kernel), List.mem_of_getElem? (i := 930) (by decide +kernel)⟩
theorem lw_p45 : lw_okq (⟨"ScopeLinesModel", "refreshAll", "()V"⟩, 52) := ⟨⟨by decide +kernel, by decide +kernel⟩, List.mem_of_getElem? (i := 707) (by decide +kernel), List.mem_of_getElem? (i := 933) (by decide +kernel), List.mem_of_getElem? (i := 934) (by decide +kernel)⟩
theorem lw_p46 : lw_okq (⟨"ScopeLinesModel", "tokenize", "(I)V"⟩, 52) := ⟨⟨by decide +kernel, by decide +kernel⟩, List.mem_of_getElem? (i := 707) (by decide +kernel), List.mem_of_getElem? (i := 937) (by decide +kernel), List.mem_of_getElem? (i := 938) (by decide +kernel)⟩
theorem lw_p47 : lw_okq (⟨"ScopeLinesModel", "begin", "(I)V"⟩, 52) := ⟨⟨by decide +kernel, by decide +kernel⟩, List.mem_of_getElem? (i := 707) (by decide +kernel), List.mem_of_getElem? (i := 941) (by decide +kernel), List.mem_of_getElem? (i := 942) (by decide +kernel)⟩
def lw_privs_3 : List (MethodName × Nat) := [(⟨"ScopeLines$Palette", "entryFor", "(LScopeLines$Line;II)I"⟩, 4), (⟨"ScopeLinesModel", "isRangeNumber", "(I)Z"⟩, 52), (⟨"ScopeLinesModel", "isPattern", "(IIZ)Z"⟩, 52), (⟨"ScopeLinesModel", "lift", "(III)V"⟩, 52), (⟨"ScopeLinesModel", "parse", "(IZ)Z"⟩, 52), (⟨"ScopeLinesModel", "at", "(II)I"⟩, 52), (⟨"ScopeLinesModel", "openLevel", "(II)V"⟩, 52), (⟨"ScopeLinesModel", "note", "(III)V"⟩, 52), (⟨"ScopeLinesModel", "quantified", "(IIIZI)I"⟩, 52), (⟨"ScopeLinesModel", "isRef", "(II)Z"⟩, 52), (⟨"ScopeLinesModel", "simple", "(IIZ)I"⟩, 52), (⟨"ScopeLinesModel", "items", "(II)I"⟩, 52), (⟨"ScopeLinesModel", "make", "(IIZI)I"⟩, 52), (⟨"ScopeLinesModel", "refreshAll", "()V"⟩, 52), (⟨"ScopeLinesModel", "tokenize", "(I)V"⟩, 52), (⟨"ScopeLinesModel", "begin", "(I)V"⟩, 52)]
theorem lw_r3 : ∀ q ∈ lw_privs_3, lw_okq q := List.forall_mem_cons.mpr ⟨lw_p32, List.forall_mem_cons.mpr ⟨lw_p33, List.forall_mem_cons.mpr ⟨lw_p34, List.forall_mem_cons.mpr ⟨lw_p35, List.forall_mem_cons.mpr ⟨lw_p36, List.forall_mem_cons.mpr ⟨lw_p37, List.forall_mem_cons.mpr ⟨lw_p38, List.forall_mem_cons.mpr ⟨lw_p39, List.forall_mem_cons.mpr ⟨lw_p40, List.forall_mem_cons.mpr ⟨lw_p41, List.forall_mem_cons.mpr ⟨lw_p42, List.forall_mem_cons.mpr ⟨lw_p43, List.forall_mem_cons.mpr ⟨lw_p44, List.forall_mem_cons.mpr ⟨lw_p45, List.forall_mem_cons.mpr ⟨lw_p46, List.forall_mem_cons.mpr ⟨lw_p47, fun _ h => absurd h List.not_mem_nil⟩⟩⟩⟩⟩⟩⟩⟩⟩⟩⟩⟩⟩⟩⟩⟩
theorem lw_p48 : lw_okq (⟨"ScopeLinesModel", "copyState", "(II)V"⟩, 52) := ⟨⟨by decide +kernel, by decide +kernel⟩, List.mem_of_getElem? (i := 707) (by decide +kernel), List.mem_of_getElem? (i := 945) (by decide +kernel), List.mem_of_getElem? (i := 946) (by decide +kernel)⟩
theorem lw_p49 : lw_okq (⟨"ScopeLinesModel", "findBest", "(II)Z"⟩, 52) := ⟨⟨by decide +kernel, by decide +kernel⟩, List.mem_of_getElem? (i := 707) (by decide +kernel), List.mem_of_getElem? (i := 949) (by decide +kernel), List.mem_of_getElem? (i := 950) (by decide +kernel)⟩
theorem lw_p50 : lw_okq (⟨"ScopeLinesModel", "gather", "()I"⟩, 52) := ⟨⟨by decide +kernel, by decide +kernel⟩, List.mem_of_getElem? (i := 707) (by decide +kernel), List.mem_of_getElem? (i := 953) (by decide +kernel), List.mem_of_getElem? (i := 954) (by decide +kernel)⟩
theorem lw_p51 : lw_okq (⟨"ScopeLinesModel", "addRules", "(II)I"⟩, 52) := ⟨⟨by decide +kernel, by decide +kernel⟩, List.mem_of_getElem? (i := 707) (by decide +kernel), List.mem_of_getElem? (i := 957) (by decide +kernel), List.mem_of_getElem? (i := 958) (by decide +kernel)⟩
theorem lw_p52 : lw_okq (⟨"ScopeLinesModel", "search", "(III)V"⟩, 52) := ⟨⟨by decide +kernel, by decide +kernel⟩, List.mem_of_getElem? (i := 707) (by decide +kernel), List.mem_of_getElem? (i := 961) (by decide +kernel), List.mem_of_getElem? (i := 962) (by decide +kernel)⟩
theorem lw_p53 : lw_okq (⟨"ScopeLinesModel", "match", "(III)V"⟩, 52) := ⟨⟨by decide +kernel, by decide +kernel⟩, List.mem_of_getElem? (i := 707) (by decide +kernel), List.mem_of_getElem? (i := 965) (by decide +kernel), List.mem_of_getElem? (i := 966) (by decide +kernel)⟩
theorem lw_p54 : lw_okq (⟨"ScopeLinesModel", "push", "(III)V"⟩, 52) := ⟨⟨by decide +kernel, by decide +kernel⟩, List.mem_of_getElem? (i := 707) (by decide +kernel), List.mem_of_getElem? (i := 969) (by decide +kernel), List.mem_of_getElem? (i := 970) (by decide +kernel)⟩
theorem lw_p55 : lw_okq (⟨"ScopeLinesModel", "ended", "(II)Z"⟩, 52) := ⟨⟨by decide +kernel, by decide +kernel⟩, List.mem_of_getElem? (i := 707) (by decide +kernel), List.mem_of_getElem? (i := 973) (by decide +kernel), List.mem_of_getElem? (i := 974) (by decide +kernel)⟩
theorem lw_p56 : lw_okq (⟨"ScopeLinesModel", "fits", "(IIII)I"⟩, 52) := ⟨⟨by decide +kernel, by decide +kernel⟩, List.mem_of_getElem? (i := 707) (by decide +kernel), List.mem_of_getElem? (i := 977) (by decide +kernel), List.mem_of_getElem? (i := 978) (by decide +kernel)⟩
theorem lw_p57 : lw_okq (⟨"ScopeLinesModel", "step", "()Z"⟩, 52) := ⟨⟨by decide +kernel, by decide +kernel⟩, List.mem_of_getElem? (i := 707) (by decide +kernel), List.mem_of_getElem? (i := 981) (by decide +kernel), List.mem_of_getElem? (i := 982) (by decide +kernel)⟩
theorem lw_p58 : lw_okq (⟨"ScopeLinesModel", "inItems", "(III)Z"⟩, 52) := ⟨⟨by decide +kernel, by decide +kernel⟩, List.mem_of_getElem? (i := 707) (by decide +kernel), List.mem_of_getElem? (i := 985) (by decide +kernel), List.mem_of_getElem? (i := 986) (by decide +kernel)⟩
theorem lw_p59 : lw_okq (⟨"ScopeLinesModel", "cutOff", "(IIII)V"⟩, 52) := ⟨⟨by decide +kernel, by decide +kernel⟩, List.mem_of_getElem? (i := 707) (by decide +kernel), List.mem_of_getElem? (i := 989) (by decide +kernel), List.mem_of_getElem? (i := 990) (by decide +kernel)⟩
theorem lw_p60 : lw_okq (⟨"ScopeLinesModel", "openRange", "(II)V"⟩, 52) := ⟨⟨by decide +kernel, by decide +kernel⟩, List.mem_of_getElem? (i := 707) (by decide +kernel), List.mem_of_getElem? (i := 993) (by decide +kernel), List.mem_of_getElem? (i := 994) (by decide +kernel)⟩
theorem lw_p61 : lw_okq (⟨"ScopeLinesModel", "refresh", "(I)I"⟩, 52) := ⟨⟨by decide +kernel, by decide +kernel⟩, List.mem_of_getElem? (i := 707) (by decide +kernel), List.mem_of_getElem? (i := 1013) (by decide +kernel), List.mem_of_getElem? (i := 1014) (by decide +kernel)⟩
theorem lw_p62 : lw_okq (⟨"ScopeLinesModel", "sameState", "(II)Z"⟩, 52) := ⟨⟨by decide +kernel, by decide +kernel⟩, List.mem_of_getElem? (i := 707) (by decide +kernel), List.mem_of_getElem? (i := 1017) (by decide +kernel), List.mem_of_getElem? (i := 1018) (by decide +kernel)⟩
theorem lw_p63 : lw_okq (⟨"ScopeLinesModel", "isLine", "(I)Z"⟩, 52) := ⟨⟨by decide +kernel, by decide +kernel⟩, List.mem_of_getElem? (i := 707) (by decide +kernel), List.mem_of_getElem? (i := 1037) (by decide +kernel), List.mem_of_getElem? (i := 1038) (by decide +kernel)⟩
def lw_privs_4 : List (MethodName × Nat) := [(⟨"ScopeLinesModel", "copyState", "(II)V"⟩, 52), (⟨"ScopeLinesModel", "findBest", "(II)Z"⟩, 52), (⟨"ScopeLinesModel", "gather", "()I"⟩, 52), (⟨"ScopeLinesModel", "addRules", "(II)I"⟩, 52), (⟨"ScopeLinesModel", "search", "(III)V"⟩, 52), (⟨"ScopeLinesModel", "match", "(III)V"⟩, 52), (⟨"ScopeLinesModel", "push", "(III)V"⟩, 52), (⟨"ScopeLinesModel", "ended", "(II)Z"⟩, 52), (⟨"ScopeLinesModel", "fits", "(IIII)I"⟩, 52), (⟨"ScopeLinesModel", "step", "()Z"⟩, 52), (⟨"ScopeLinesModel", "inItems", "(III)Z"⟩, 52), (⟨"ScopeLinesModel", "cutOff", "(IIII)V"⟩, 52), (⟨"ScopeLinesModel", "openRange", "(II)V"⟩, 52), (⟨"ScopeLinesModel", "refresh", "(I)I"⟩, 52), (⟨"ScopeLinesModel", "sameState", "(II)Z"⟩, 52), (⟨"ScopeLinesModel", "isLine", "(I)Z"⟩, 52)]
theorem lw_r4 : ∀ q ∈ lw_privs_4, lw_okq q := List.forall_mem_cons.mpr ⟨lw_p48, List.forall_mem_cons.mpr ⟨lw_p49, List.forall_mem_cons.mpr ⟨lw_p50, List.forall_mem_cons.mpr ⟨lw_p51, List.forall_mem_cons.mpr ⟨lw_p52, List.forall_mem_cons.mpr ⟨lw_p53, List.forall_mem_cons.mpr ⟨lw_p54, List.forall_mem_cons.mpr ⟨lw_p55, List.forall_mem_cons.mpr ⟨lw_p56, List.forall_mem_cons.mpr ⟨lw_p57, List.forall_mem_cons.mpr ⟨lw_p58, List.forall_mem_cons.mpr ⟨lw_p59, List.forall_mem_cons.mpr ⟨lw_p60, List.forall_mem_cons.mpr ⟨lw_p61, List.forall_mem_cons.mpr ⟨lw_p62, List.forall_mem_cons.mpr ⟨lw_p63, fun _ h => absurd h List.not_mem_nil⟩⟩⟩⟩⟩⟩⟩⟩⟩⟩⟩⟩⟩⟩⟩⟩
theorem lw_p64 : lw_okq (⟨"ScopeLinesModel", "colour", "(I)I"⟩, 52) := ⟨⟨by decide +kernel, by decide +kernel⟩, List.mem_of_getElem? (i := 707) (by decide +kernel), List.mem_of_getElem? (i := 1049) (by decide +kernel), List.mem_of_getElem? (i := 1050) (by decide +kernel)⟩
theorem lw_p65 : lw_okq (⟨"ScopeLinesModel", "entry", "(IIZ)I"⟩, 52) := ⟨⟨by decide +kernel, by decide +kernel⟩, List.mem_of_getElem? (i := 707) (by decide +kernel), List.mem_of_getElem? (i := 1053) (by decide +kernel), List.mem_of_getElem? (i := 1054) (by decide +kernel)⟩
def lw_privs_5 : List (MethodName × Nat) := [(⟨"ScopeLinesModel", "colour", "(I)I"⟩, 52), (⟨"ScopeLinesModel", "entry", "(IIZ)I"⟩, 52)]
theorem lw_r5 : ∀ q ∈ lw_privs_5, lw_okq q := List.forall_mem_cons.mpr ⟨lw_p64, List.forall_mem_cons.mpr ⟨lw_p65, fun _ h => absurd h List.not_mem_nil⟩⟩
def lw_privs : List (MethodName × Nat) := lw_privs_1 ++ (lw_privs_2 ++ (lw_privs_3 ++ (lw_privs_4 ++ (lw_privs_5))))
def lw_tbl : List Cond := k2_sels lw_privs ++ tables_1
theorem lw_privs_ok : ∀ q ∈ lw_privs, lw_okq q := by
  show ∀ q ∈ lw_privs_1 ++ (lw_privs_2 ++ (lw_privs_3 ++ (lw_privs_4 ++ (lw_privs_5)))), lw_okq q
  exact List.forall_mem_append.mpr ⟨lw_r1, List.forall_mem_append.mpr ⟨lw_r2, List.forall_mem_append.mpr ⟨lw_r3, List.forall_mem_append.mpr ⟨lw_r4, lw_r5⟩⟩⟩⟩
end
section
/-! Names: classes, fields, methods -/
def R_SL : String := "ScopeLines"
def T_SL : u_T := fun k => match k with
  | 0 => ("ScopeLines", "draft", "[C", true)
  | 1 => ("ScopeLines", "drafted", "I", false)
  | 2 => ("ScopeLines", "parser", "LScopeLines$Parser;", true)
  | 3 => ("ScopeLines", "grammar", "LScopeLines$Grammar;", true)
  | 4 => ("ScopeLines", "document", "[LScopeLines$Line;", true)
  | 5 => ("ScopeLines", "lineCount", "I", false)
  | 6 => ("ScopeLines", "passCount", "I", false)
  | 7 => ("ScopeLines", "palette", "LScopeLines$Palette;", true)
  | 8 => ("ScopeLines", "nothingOpen", "LScopeLines$State;", true)
  | _ => ("ScopeLines", "before", "LScopeLines$State;", true)
def u_SL : Nat → FieldType := fun k => match k with
  | 0 => .array .char
  | 1 => .int
  | 2 => .object "ScopeLines$Parser"
  | 3 => .object "ScopeLines$Grammar"
  | 4 => .array (.object "ScopeLines$Line")
  | 5 => .int
  | 6 => .int
  | 7 => .object "ScopeLines$Palette"
  | 8 => .object "ScopeLines$State"
  | _ => .object "ScopeLines$State"
def R_St : String := "ScopeLines$State"
def T_St : u_T := fun k => match k with
  | 0 => ("ScopeLines$State", "open", "I", false)
  | 1 => ("ScopeLines$State", "ranges", "[I", true)
  | 2 => ("ScopeLines$State", "textLengths", "[I", true)
  | _ => ("ScopeLines$State", "texts", "[C", true)
def u_St : Nat → FieldType := fun k => match k with
  | 0 => .int
  | 1 => .array .int
  | 2 => .array .int
  | _ => .array .char
def R_Li : String := "ScopeLines$Line"
def T_Li : u_T := fun k => match k with
  | 0 => ("ScopeLines$Line", "characters", "[C", true)
  | 1 => ("ScopeLines$Line", "size", "I", false)
  | 2 => ("ScopeLines$Line", "begins", "[I", true)
  | 3 => ("ScopeLines$Line", "scopeCounts", "[I", true)
  | 4 => ("ScopeLines$Line", "scopes", "[I", true)
  | 5 => ("ScopeLines$Line", "tokenCount", "I", false)
  | 6 => ("ScopeLines$Line", "isMarked", "Z", false)
  | _ => ("ScopeLines$Line", "end", "LScopeLines$State;", true)
def u_Li : Nat → FieldType := fun k => match k with
  | 0 => .array .char
  | 1 => .int
  | 2 => .array .int
  | 3 => .array .int
  | 4 => .array .int
  | 5 => .int
  | 6 => .boolean
  | _ => .object "ScopeLines$State"
def R_Pa : String := "ScopeLines$Palette"
def T_Pa : u_T := fun k => match k with
  | 0 => ("ScopeLines$Palette", "scopes", "[I", true)
  | 1 => ("ScopeLines$Palette", "parents", "[I", true)
  | 2 => ("ScopeLines$Palette", "colours", "[I", true)
  | _ => ("ScopeLines$Palette", "count", "I", false)
def u_Pa : Nat → FieldType := fun k => match k with
  | 0 => .array .int
  | 1 => .array .int
  | 2 => .array .int
  | _ => .int
def R_Pt : String := "ScopeLines$Pattern"
def T_Pt : u_T := fun k => match k with
  | 0 => ("ScopeLines$Pattern", "ops", "[I", true)
  | 1 => ("ScopeLines$Pattern", "firsts", "[I", true)
  | 2 => ("ScopeLines$Pattern", "seconds", "[I", true)
  | 3 => ("ScopeLines$Pattern", "lowBits", "[J", true)
  | 4 => ("ScopeLines$Pattern", "highBits", "[J", true)
  | 5 => ("ScopeLines$Pattern", "size", "I", false)
  | _ => ("ScopeLines$Pattern", "setCount", "I", false)
def u_Pt : Nat → FieldType := fun k => match k with
  | 0 => .array .int
  | 1 => .array .int
  | 2 => .array .int
  | 3 => .array .long
  | 4 => .array .long
  | 5 => .int
  | _ => .int
def R_Pr : String := "ScopeLines$Parser"
def T_Pr : u_T := fun k => match k with
  | 0 => ("ScopeLines$Parser", "source", "[C", true)
  | 1 => ("ScopeLines$Parser", "size", "I", false)
  | 2 => ("ScopeLines$Parser", "at", "I", false)
  | 3 => ("ScopeLines$Parser", "inEnd", "Z", false)
  | 4 => ("ScopeLines$Parser", "isBad", "Z", false)
  | 5 => ("ScopeLines$Parser", "groups", "I", false)
  | 6 => ("ScopeLines$Parser", "level", "I", false)
  | 7 => ("ScopeLines$Parser", "groupNumbers", "[I", true)
  | 8 => ("ScopeLines$Parser", "bodies", "[I", true)
  | 9 => ("ScopeLines$Parser", "branches", "[I", true)
  | 10 => ("ScopeLines$Parser", "endedBranches", "[I", true)
  | 11 => ("ScopeLines$Parser", "branchIsEmpty", "[Z", true)
  | 12 => ("ScopeLines$Parser", "someIsEmpty", "[Z", true)
  | 13 => ("ScopeLines$Parser", "low", "J", false)
  | _ => ("ScopeLines$Parser", "high", "J", false)
def u_Pr : Nat → FieldType := fun k => match k with
  | 0 => .array .char
  | 1 => .int
  | 2 => .int
  | 3 => .boolean
  | 4 => .boolean
  | 5 => .int
  | 6 => .int
  | 7 => .array .int
  | 8 => .array .int
  | 9 => .array .int
  | 10 => .array .int
  | 11 => .array .boolean
  | 12 => .array .boolean
  | 13 => .long
  | _ => .long
def R_Se : String := "ScopeLines$Search"
def T_Se : u_T := fun k => match k with
  | 0 => ("ScopeLines$Search", "budget", "I", true)
  | 1 => ("ScopeLines$Search", "groups", "[I", true)
  | 2 => ("ScopeLines$Search", "begin", "I", false)
  | 3 => ("ScopeLines$Search", "end", "I", false)
  | 4 => ("ScopeLines$Search", "steps", "I", false)
  | 5 => ("ScopeLines$Search", "isOver", "Z", false)
  | 6 => ("ScopeLines$Search", "next", "I", false)
  | 7 => ("ScopeLines$Search", "here", "I", false)
  | 8 => ("ScopeLines$Search", "isMatch", "Z", false)
  | 9 => ("ScopeLines$Search", "waiting", "[I", true)
  | 10 => ("ScopeLines$Search", "waitingPlaces", "[I", true)
  | _ => ("ScopeLines$Search", "waitingCount", "I", false)
def u_Se : Nat → FieldType := fun k => match k with
  | 0 => .int
  | 1 => .array .int
  | 2 => .int
  | 3 => .int
  | 4 => .int
  | 5 => .boolean
  | 6 => .int
  | 7 => .int
  | 8 => .boolean
  | 9 => .array .int
  | 10 => .array .int
  | _ => .int
def R_Ru : String := "ScopeLines$Rule"
def T_Ru : u_T := fun k => match k with
  | 0 => ("ScopeLines$Rule", "pattern", "LScopeLines$Pattern;", true)
  | 1 => ("ScopeLines$Rule", "end", "LScopeLines$Pattern;", true)
  | 2 => ("ScopeLines$Rule", "isRange", "Z", false)
  | 3 => ("ScopeLines$Rule", "home", "I", false)
  | 4 => ("ScopeLines$Rule", "scope", "I", false)
  | _ => ("ScopeLines$Rule", "included", "I", false)
def u_Ru : Nat → FieldType := fun k => match k with
  | 0 => .object "ScopeLines$Pattern"
  | 1 => .object "ScopeLines$Pattern"
  | 2 => .boolean
  | 3 => .int
  | 4 => .int
  | _ => .int
def R_Gr : String := "ScopeLines$Grammar"
def T_Gr : u_T := fun k => match k with
  | 0 => ("ScopeLines$Grammar", "rules", "[LScopeLines$Rule;", true)
  | 1 => ("ScopeLines$Grammar", "ruleCount", "I", false)
  | 2 => ("ScopeLines$Grammar", "search", "LScopeLines$Search;", true)
  | 3 => ("ScopeLines$Grammar", "now", "LScopeLines$State;", true)
  | 4 => ("ScopeLines$Grammar", "candidates", "[I", true)
  | 5 => ("ScopeLines$Grammar", "candidateCount", "I", false)
  | 6 => ("ScopeLines$Grammar", "winner", "I", false)
  | 7 => ("ScopeLines$Grammar", "winnerBegin", "I", false)
  | 8 => ("ScopeLines$Grammar", "winnerEnd", "I", false)
  | _ => ("ScopeLines$Grammar", "winnerGroups", "[I", true)
def u_Gr : Nat → FieldType := fun k => match k with
  | 0 => .array (.object "ScopeLines$Rule")
  | 1 => .int
  | 2 => .object "ScopeLines$Search"
  | 3 => .object "ScopeLines$State"
  | 4 => .array .int
  | 5 => .int
  | 6 => .int
  | 7 => .int
  | 8 => .int
  | _ => .array .int
def R_Mo : String := "ScopeLinesModel"
def T_Mo : u_T := fun k => match k with
  | 0 => ("ScopeLinesModel", "budget", "I", false)
  | 1 => ("ScopeLinesModel", "drafted", "I", false)
  | 2 => ("ScopeLinesModel", "draft", "[I", false)
  | 3 => ("ScopeLinesModel", "rules", "I", false)
  | 4 => ("ScopeLinesModel", "isRange", "[Z", false)
  | 5 => ("ScopeLinesModel", "home", "[I", false)
  | 6 => ("ScopeLinesModel", "scope", "[I", false)
  | 7 => ("ScopeLinesModel", "includes", "[I", false)
  | 8 => ("ScopeLinesModel", "patLength", "[I", false)
  | 9 => ("ScopeLinesModel", "pat", "[I", false)
  | 10 => ("ScopeLinesModel", "quant", "[I", false)
  | 11 => ("ScopeLinesModel", "atomEnd", "[I", false)
  | 12 => ("ScopeLinesModel", "pieceEnd", "[I", false)
  | 13 => ("ScopeLinesModel", "groupOf", "[I", false)
  | 14 => ("ScopeLinesModel", "owner", "[I", false)
  | 15 => ("ScopeLinesModel", "bar", "[I", false)
  | 16 => ("ScopeLinesModel", "firstBar", "[I", false)
  | 17 => ("ScopeLinesModel", "opened", "[I", false)
  | 18 => ("ScopeLinesModel", "lastBar", "[I", false)
  | 19 => ("ScopeLinesModel", "some", "[Z", false)
  | 20 => ("ScopeLinesModel", "present", "[Z", false)
  | 21 => ("ScopeLinesModel", "steps", "I", false)
  | 22 => ("ScopeLinesModel", "over", "Z", false)
  | 23 => ("ScopeLinesModel", "matchFrom", "I", false)
  | 24 => ("ScopeLinesModel", "matchTo", "I", false)
  | 25 => ("ScopeLinesModel", "group", "[I", false)
  | 26 => ("ScopeLinesModel", "choices", "I", false)
  | 27 => ("ScopeLinesModel", "choice", "[I", false)
  | 28 => ("ScopeLinesModel", "refLength", "[I", false)
  | 29 => ("ScopeLinesModel", "ref", "[I", false)
  | 30 => ("ScopeLinesModel", "lines", "I", false)
  | 31 => ("ScopeLinesModel", "passes", "I", false)
  | 32 => ("ScopeLinesModel", "length", "[I", false)
  | 33 => ("ScopeLinesModel", "text", "[I", false)
  | 34 => ("ScopeLinesModel", "marked", "[Z", false)
  | 35 => ("ScopeLinesModel", "tokens", "[I", false)
  | 36 => ("ScopeLinesModel", "tokenAt", "[I", false)
  | 37 => ("ScopeLinesModel", "tokenScopes", "[I", false)
  | 38 => ("ScopeLinesModel", "tokenScope", "[I", false)
  | 39 => ("ScopeLinesModel", "depth", "[I", false)
  | 40 => ("ScopeLinesModel", "open", "[I", false)
  | 41 => ("ScopeLinesModel", "openLength", "[I", false)
  | 42 => ("ScopeLinesModel", "openText", "[I", false)
  | 43 => ("ScopeLinesModel", "candidates", "[I", false)
  | 44 => ("ScopeLinesModel", "best", "I", false)
  | 45 => ("ScopeLinesModel", "bestFrom", "I", false)
  | 46 => ("ScopeLinesModel", "bestTo", "I", false)
  | 47 => ("ScopeLinesModel", "bestGroup", "[I", false)
  | 48 => ("ScopeLinesModel", "entries", "I", false)
  | 49 => ("ScopeLinesModel", "entryScope", "[I", false)
  | 50 => ("ScopeLinesModel", "entryParent", "[I", false)
  | _ => ("ScopeLinesModel", "entryColour", "[I", false)
def u_Mo : Nat → FieldType := fun k => match k with
  | 0 => .int
  | 1 => .int
  | 2 => .array .int
  | 3 => .int
  | 4 => .array .boolean
  | 5 => .array .int
  | 6 => .array .int
  | 7 => .array .int
  | 8 => .array .int
  | 9 => .array .int
  | 10 => .array .int
  | 11 => .array .int
  | 12 => .array .int
  | 13 => .array .int
  | 14 => .array .int
  | 15 => .array .int
  | 16 => .array .int
  | 17 => .array .int
  | 18 => .array .int
  | 19 => .array .boolean
  | 20 => .array .boolean
  | 21 => .int
  | 22 => .boolean
  | 23 => .int
  | 24 => .int
  | 25 => .array .int
  | 26 => .int
  | 27 => .array .int
  | 28 => .array .int
  | 29 => .array .int
  | 30 => .int
  | 31 => .int
  | 32 => .array .int
  | 33 => .array .int
  | 34 => .array .boolean
  | 35 => .array .int
  | 36 => .array .int
  | 37 => .array .int
  | 38 => .array .int
  | 39 => .array .int
  | 40 => .array .int
  | 41 => .array .int
  | 42 => .array .int
  | 43 => .array .int
  | 44 => .int
  | 45 => .int
  | 46 => .int
  | 47 => .array .int
  | 48 => .int
  | 49 => .array .int
  | 50 => .array .int
  | _ => .array .int
def classes : List vw_C := [(R_SL, T_SL, 10), (R_St, T_St, 4), (R_Li, T_Li, 8), (R_Pa, T_Pa, 4), (R_Pt, T_Pt, 7), (R_Pr, T_Pr, 15), (R_Se, T_Se, 12), (R_Ru, T_Ru, 6), (R_Gr, T_Gr, 10), (R_Mo, T_Mo, 52)]
/-- a field's kind: 0 a number, 1 a long, 2 a reference -/
def zty (k j : Nat) : Nat := match k with
  | 0 => match j with
    | 0 => 2
    | 2 => 2
    | 3 => 2
    | 4 => 2
    | 7 => 2
    | 8 => 2
    | 9 => 2
    | _ => 0
  | 1 => match j with
    | 1 => 2
    | 2 => 2
    | 3 => 2
    | _ => 0
  | 2 => match j with
    | 0 => 2
    | 2 => 2
    | 3 => 2
    | 4 => 2
    | 7 => 2
    | _ => 0
  | 3 => match j with
    | 0 => 2
    | 1 => 2
    | 2 => 2
    | _ => 0
  | 4 => match j with
    | 0 => 2
    | 1 => 2
    | 2 => 2
    | 3 => 2
    | 4 => 2
    | _ => 0
  | 5 => match j with
    | 0 => 2
    | 7 => 2
    | 8 => 2
    | 9 => 2
    | 10 => 2
    | 11 => 2
    | 12 => 2
    | 13 => 1
    | 14 => 1
    | _ => 0
  | 6 => match j with
    | 1 => 2
    | 9 => 2
    | 10 => 2
    | _ => 0
  | 7 => match j with
    | 0 => 2
    | 1 => 2
    | _ => 0
  | 8 => match j with
    | 0 => 2
    | 2 => 2
    | 3 => 2
    | 4 => 2
    | 9 => 2
    | _ => 0
  | 9 => match j with
    | 2 => 2
    | 4 => 2
    | 5 => 2
    | 6 => 2
    | 7 => 2
    | 8 => 2
    | 9 => 2
    | 10 => 2
    | 11 => 2
    | 12 => 2
    | 13 => 2
    | 14 => 2
    | 15 => 2
    | 16 => 2
    | 17 => 2
    | 18 => 2
    | 19 => 2
    | 20 => 2
    | 25 => 2
    | 27 => 2
    | 28 => 2
    | 29 => 2
    | 32 => 2
    | 33 => 2
    | 34 => 2
    | 35 => 2
    | 36 => 2
    | 37 => 2
    | 38 => 2
    | 39 => 2
    | 40 => 2
    | 41 => 2
    | 42 => 2
    | 43 => 2
    | 47 => 2
    | 49 => 2
    | 50 => 2
    | 51 => 2
    | _ => 0
  | _ => 0
def zdf (t : Nat) : Value := match t with
  | 0 => .int 0
  | 1 => .long 0
  | _ => .null
def zNW : List Cond := [.methodLinkNest "ScopeLines" 15 ⟨"ScopeLines$Parser", "<init>", "()V"⟩ "ScopeLines", .methodLinkNest "ScopeLines" 28 ⟨"ScopeLines$Palette", "<init>", "()V"⟩ "ScopeLines", .methodLinkNest "ScopeLines" 35 ⟨"ScopeLines$State", "<init>", "()V"⟩ "ScopeLines", .methodLinkNest "ScopeLines$Grammar" 19 ⟨"ScopeLines$State", "<init>", "()V"⟩ "ScopeLines", .methodLinkNest "ScopeLines$Grammar" 40 ⟨"ScopeLines$Rule", "<init>", "()V"⟩ "ScopeLines", .methodLinkNest "ScopeLines$Rule" 11 ⟨"ScopeLines$Pattern", "<init>", "()V"⟩ "ScopeLines", .methodLinkNest "ScopeLines" 61 ⟨"ScopeLines$Line", "<init>", "()V"⟩ "ScopeLines", .methodLinkNest "ScopeLines$Line" 27 ⟨"ScopeLines$State", "<init>", "()V"⟩ "ScopeLines"]
def z_isNest (w : Cond) : Bool := match w with
  | .methodLinkNest .. => true
  | .fieldLinkNest .. => true
  | _ => false
theorem zNW_all : zNW.all z_isNest = true := by decide +kernel
theorem zNW_nest (w : Cond) (h : w ∈ zNW) : z_isNest w = true := List.all_eq_true.mp zNW_all w h
theorem zNW_tbl : ∀ w ∈ zNW, w ∈ tables_1 := by decide +kernel
def y_Pr_init : MethodName := ⟨"ScopeLines$Parser", "<init>", "()V"⟩
def y_Pa_init : MethodName := ⟨"ScopeLines$Palette", "<init>", "()V"⟩
def y_St_init : MethodName := ⟨"ScopeLines$State", "<init>", "()V"⟩
def y_Se_init : MethodName := ⟨"ScopeLines$Search", "<init>", "(I)V"⟩
def y_Pt_init : MethodName := ⟨"ScopeLines$Pattern", "<init>", "()V"⟩
def y_Ru_init : MethodName := ⟨"ScopeLines$Rule", "<init>", "()V"⟩
def y_Gr_init : MethodName := ⟨"ScopeLines$Grammar", "<init>", "(I)V"⟩
def y_Li_init : MethodName := ⟨"ScopeLines$Line", "<init>", "()V"⟩
def y_SL_init : MethodName := ⟨"ScopeLines", "<init>", "(I)V"⟩
def y_SL_type : MethodName := ⟨"ScopeLines", "type", "(J)Z"⟩
def y_SL_wipe : MethodName := ⟨"ScopeLines", "wipe", "()V"⟩
def y_Gr_isRange : MethodName := ⟨"ScopeLines$Grammar", "isRange", "(I)Z"⟩
def y_SL_isScope : MethodName := ⟨"ScopeLines", "isScope", "(I)Z"⟩
def y_Gr_nextRule : MethodName := ⟨"ScopeLines$Grammar", "nextRule", "()LScopeLines$Rule;"⟩
def y_Pr_hasBlank : MethodName := ⟨"ScopeLines$Parser", "hasBlank", "()Z"⟩
def y_Pt_clear : MethodName := ⟨"ScopeLines$Pattern", "clear", "()V"⟩
def y_Pr_openLevel : MethodName := ⟨"ScopeLines$Parser", "openLevel", "(I)V"⟩
def y_Pt_insert : MethodName := ⟨"ScopeLines$Pattern", "insert", "(IIII)V"⟩
def y_Pt_append : MethodName := ⟨"ScopeLines$Pattern", "append", "(II)V"⟩
def y_Pt_endBranch : MethodName := ⟨"ScopeLines$Pattern", "endBranch", "(I)V"⟩
def y_Pr_endBranch : MethodName := ⟨"ScopeLines$Parser", "endBranch", "(LScopeLines$Pattern;)V"⟩
def y_Pr_openGroup : MethodName := ⟨"ScopeLines$Parser", "openGroup", "(LScopeLines$Pattern;)V"⟩
def y_Pt_joinBranches : MethodName := ⟨"ScopeLines$Pattern", "joinBranches", "(II)V"⟩
def y_Pr_closeLevel : MethodName := ⟨"ScopeLines$Parser", "closeLevel", "(LScopeLines$Pattern;)Z"⟩
def y_Pt_insertSplit : MethodName := ⟨"ScopeLines$Pattern", "insertSplit", "(IIIZ)V"⟩
def y_Pt_repeat : MethodName := ⟨"ScopeLines$Pattern", "repeat", "(ICZ)V"⟩
def y_Pr_readQuantifier : MethodName := ⟨"ScopeLines$Parser", "readQuantifier", "(IZLScopeLines$Pattern;)V"⟩
def y_Pr_closeGroup : MethodName := ⟨"ScopeLines$Parser", "closeGroup", "(LScopeLines$Pattern;)V"⟩
def y_Pr_readItem : MethodName := ⟨"ScopeLines$Parser", "readItem", "()V"⟩
def y_Pt_appendSet : MethodName := ⟨"ScopeLines$Pattern", "appendSet", "(JJ)V"⟩
def y_Pr_readSet : MethodName := ⟨"ScopeLines$Parser", "readSet", "(LScopeLines$Pattern;)V"⟩
def y_Pr_readEscape : MethodName := ⟨"ScopeLines$Parser", "readEscape", "(LScopeLines$Pattern;)Z"⟩
def y_Pr_readAtom : MethodName := ⟨"ScopeLines$Parser", "readAtom", "(CLScopeLines$Pattern;)Z"⟩
def y_Pr_readNext : MethodName := ⟨"ScopeLines$Parser", "readNext", "(LScopeLines$Pattern;)V"⟩
def y_Pr_parse : MethodName := ⟨"ScopeLines$Parser", "parse", "([CIIZLScopeLines$Pattern;)Z"⟩
def y_Gr_keepNextRule : MethodName := ⟨"ScopeLines$Grammar", "keepNextRule", "(IIZ)V"⟩
def y_SL_addRule : MethodName := ⟨"ScopeLines", "addRule", "(IIZ)I"⟩
def y_St_copy : MethodName := ⟨"ScopeLines$State", "copy", "(LScopeLines$State;)V"⟩
def y_St_innermost : MethodName := ⟨"ScopeLines$State", "innermost", "()I"⟩
def y_Gr_listRulesOf : MethodName := ⟨"ScopeLines$Grammar", "listRulesOf", "(I)V"⟩
def y_Gr_listCandidates : MethodName := ⟨"ScopeLines$Grammar", "listCandidates", "()V"⟩
def y_Ar_fill : MethodName := ⟨"java/util/Arrays", "fill", "([II)V"⟩
def y_Se_leaveWaiting : MethodName := ⟨"ScopeLines$Search", "leaveWaiting", "(II)V"⟩
def y_St_textLength : MethodName := ⟨"ScopeLines$State", "textLength", "(II)I"⟩
def y_Se_makeStep : MethodName := ⟨"ScopeLines$Search", "makeStep", "()Z"⟩
def y_St_textCharacter : MethodName := ⟨"ScopeLines$State", "textCharacter", "(III)C"⟩
def y_Se_fitsText : MethodName := ⟨"ScopeLines$Search", "fitsText", "(LScopeLines$Line;LScopeLines$State;I)Z"⟩
def y_Pt_isInSet : MethodName := ⟨"ScopeLines$Pattern", "isInSet", "(IC)Z"⟩
def y_Se_fitsAtom : MethodName := ⟨"ScopeLines$Search", "fitsAtom", "(LScopeLines$Pattern;LScopeLines$Line;I)Z"⟩
def y_Se_goBack : MethodName := ⟨"ScopeLines$Search", "goBack", "()Z"⟩
def y_Se_doNext : MethodName := ⟨"ScopeLines$Search", "doNext", "(LScopeLines$Pattern;LScopeLines$Line;LScopeLines$State;)Z"⟩
def y_Se_run : MethodName := ⟨"ScopeLines$Search", "run", "(LScopeLines$Pattern;LScopeLines$Line;ILScopeLines$State;)V"⟩
def y_Gr_keepWinner : MethodName := ⟨"ScopeLines$Grammar", "keepWinner", "(I)V"⟩
def y_Gr_findWinner : MethodName := ⟨"ScopeLines$Grammar", "findWinner", "(LScopeLines$Line;I)Z"⟩
def y_Li_addToken : MethodName := ⟨"ScopeLines$Line", "addToken", "(I)V"⟩
def y_Li_addScope : MethodName := ⟨"ScopeLines$Line", "addScope", "(I)V"⟩
def y_Gr_cut : MethodName := ⟨"ScopeLines$Grammar", "cut", "(LScopeLines$Line;II)Z"⟩
def y_Gr_mark : MethodName := ⟨"ScopeLines$Grammar", "mark", "(LScopeLines$Line;LScopeLines$State;)V"⟩
def y_Gr_isLast : MethodName := ⟨"ScopeLines$Grammar", "isLast", "(I)Z"⟩
def y_St_push : MethodName := ⟨"ScopeLines$State", "push", "(I)V"⟩
def y_St_keepText : MethodName := ⟨"ScopeLines$State", "keepText", "(ILScopeLines$Line;II)V"⟩
def y_Gr_takeWinner : MethodName := ⟨"ScopeLines$Grammar", "takeWinner", "(LScopeLines$Line;)V"⟩
def y_Gr_tokenize : MethodName := ⟨"ScopeLines$Grammar", "tokenize", "(LScopeLines$Line;LScopeLines$State;)V"⟩
def y_St_isSameText : MethodName := ⟨"ScopeLines$State", "isSameText", "(LScopeLines$State;I)Z"⟩
def y_St_isSame : MethodName := ⟨"ScopeLines$State", "isSame", "(LScopeLines$State;)Z"⟩
def y_SL_tokenizeFrom : MethodName := ⟨"ScopeLines", "tokenizeFrom", "(IZ)I"⟩
def y_SL_piece : MethodName := ⟨"ScopeLines", "piece", "(II)I"⟩
def y_SL_firstBlank : MethodName := ⟨"ScopeLines", "firstBlank", "()I"⟩
def y_SL_range : MethodName := ⟨"ScopeLines", "range", "(II)I"⟩
def y_SL_include : MethodName := ⟨"ScopeLines", "include", "(II)Z"⟩
def y_Pa_add : MethodName := ⟨"ScopeLines$Palette", "add", "(III)V"⟩
def y_SL_theme : MethodName := ⟨"ScopeLines", "theme", "(III)Z"⟩
def y_Li_write : MethodName := ⟨"ScopeLines$Line", "write", "([CI)V"⟩
def y_SL_put : MethodName := ⟨"ScopeLines", "put", "(I)I"⟩
def y_SL_isLine : MethodName := ⟨"ScopeLines", "isLine", "(I)Z"⟩
def y_SL_drop : MethodName := ⟨"ScopeLines", "drop", "(I)I"⟩
def y_SL_lines : MethodName := ⟨"ScopeLines", "lines", "()I"⟩
def y_SL_passes : MethodName := ⟨"ScopeLines", "passes", "()I"⟩
def y_SL_length : MethodName := ⟨"ScopeLines", "length", "(I)I"⟩
def y_SL_tokens : MethodName := ⟨"ScopeLines", "tokens", "(I)I"⟩
def y_Li_scopeOf : MethodName := ⟨"ScopeLines$Line", "scopeOf", "(II)I"⟩
def y_Li_lastScope : MethodName := ⟨"ScopeLines$Line", "lastScope", "(I)I"⟩
def y_Pa_isUnder : MethodName := ⟨"ScopeLines$Palette", "isUnder", "(LScopeLines$Line;III)Z"⟩
def y_Pa_entryFor : MethodName := ⟨"ScopeLines$Palette", "entryFor", "(LScopeLines$Line;II)I"⟩
def y_Pa_colourOf : MethodName := ⟨"ScopeLines$Palette", "colourOf", "(LScopeLines$Line;I)I"⟩
def y_SL_token : MethodName := ⟨"ScopeLines", "token", "(III)I"⟩
def y_SL_marked : MethodName := ⟨"ScopeLines", "marked", "(I)Z"⟩
def y_St_isOpen : MethodName := ⟨"ScopeLines$State", "isOpen", "(I)Z"⟩
def y_SL_state : MethodName := ⟨"ScopeLines", "state", "(II)I"⟩
def y_SL_text : MethodName := ⟨"ScopeLines", "text", "(III)I"⟩
def y_SL_find : MethodName := ⟨"ScopeLines", "find", "(IIII)I"⟩
def y_Mo_init : MethodName := ⟨"ScopeLinesModel", "<init>", "(I)V"⟩
def y_Mo_type : MethodName := ⟨"ScopeLinesModel", "type", "(J)Z"⟩
def y_Mo_wipe : MethodName := ⟨"ScopeLinesModel", "wipe", "()V"⟩
def y_Mo_quantifier : MethodName := ⟨"ScopeLinesModel", "quantifier", "(I)Z"⟩
def y_Mo_at : MethodName := ⟨"ScopeLinesModel", "at", "(II)I"⟩
def y_Mo_items : MethodName := ⟨"ScopeLinesModel", "items", "(II)I"⟩
def y_Mo_simple : MethodName := ⟨"ScopeLinesModel", "simple", "(IIZ)I"⟩
def y_Mo_isRef : MethodName := ⟨"ScopeLinesModel", "isRef", "(II)Z"⟩
def y_Mo_quantified : MethodName := ⟨"ScopeLinesModel", "quantified", "(IIIZI)I"⟩
def y_Mo_openLevel : MethodName := ⟨"ScopeLinesModel", "openLevel", "(II)V"⟩
def y_Mo_note : MethodName := ⟨"ScopeLinesModel", "note", "(III)V"⟩
def y_Mo_parse : MethodName := ⟨"ScopeLinesModel", "parse", "(IZ)Z"⟩
def y_Mo_inItems : MethodName := ⟨"ScopeLinesModel", "inItems", "(III)Z"⟩
def y_Mo_push : MethodName := ⟨"ScopeLinesModel", "push", "(III)V"⟩
def y_Mo_step : MethodName := ⟨"ScopeLinesModel", "step", "()Z"⟩
def y_Mo_fits : MethodName := ⟨"ScopeLinesModel", "fits", "(IIII)I"⟩
def y_Mo_ended : MethodName := ⟨"ScopeLinesModel", "ended", "(II)Z"⟩
def y_Mo_match : MethodName := ⟨"ScopeLinesModel", "match", "(III)V"⟩
def y_Mo_search : MethodName := ⟨"ScopeLinesModel", "search", "(III)V"⟩
def y_Mo_copyState : MethodName := ⟨"ScopeLinesModel", "copyState", "(II)V"⟩
def y_Mo_sameState : MethodName := ⟨"ScopeLinesModel", "sameState", "(II)Z"⟩
def y_Mo_begin : MethodName := ⟨"ScopeLinesModel", "begin", "(I)V"⟩
def y_Mo_addRules : MethodName := ⟨"ScopeLinesModel", "addRules", "(II)I"⟩
def y_Mo_gather : MethodName := ⟨"ScopeLinesModel", "gather", "()I"⟩
def y_Mo_findBest : MethodName := ⟨"ScopeLinesModel", "findBest", "(II)Z"⟩
def y_Mo_cutOff : MethodName := ⟨"ScopeLinesModel", "cutOff", "(IIII)V"⟩
def y_Mo_openRange : MethodName := ⟨"ScopeLinesModel", "openRange", "(II)V"⟩
def y_Mo_tokenize : MethodName := ⟨"ScopeLinesModel", "tokenize", "(I)V"⟩
def y_Mo_refresh : MethodName := ⟨"ScopeLinesModel", "refresh", "(I)I"⟩
def y_Mo_refreshAll : MethodName := ⟨"ScopeLinesModel", "refreshAll", "()V"⟩
def y_Mo_lift : MethodName := ⟨"ScopeLinesModel", "lift", "(III)V"⟩
def y_Mo_isRangeNumber : MethodName := ⟨"ScopeLinesModel", "isRangeNumber", "(I)Z"⟩
def y_Mo_isPattern : MethodName := ⟨"ScopeLinesModel", "isPattern", "(IIZ)Z"⟩
def y_Mo_make : MethodName := ⟨"ScopeLinesModel", "make", "(IIZI)I"⟩
def y_Mo_piece : MethodName := ⟨"ScopeLinesModel", "piece", "(II)I"⟩
def y_Mo_range : MethodName := ⟨"ScopeLinesModel", "range", "(II)I"⟩
def y_Mo_include : MethodName := ⟨"ScopeLinesModel", "include", "(II)Z"⟩
def y_Mo_theme : MethodName := ⟨"ScopeLinesModel", "theme", "(III)Z"⟩
def y_Mo_put : MethodName := ⟨"ScopeLinesModel", "put", "(I)I"⟩
def y_Mo_drop : MethodName := ⟨"ScopeLinesModel", "drop", "(I)I"⟩
def y_Mo_isLine : MethodName := ⟨"ScopeLinesModel", "isLine", "(I)Z"⟩
def y_Mo_lines : MethodName := ⟨"ScopeLinesModel", "lines", "()I"⟩
def y_Mo_passes : MethodName := ⟨"ScopeLinesModel", "passes", "()I"⟩
def y_Mo_length : MethodName := ⟨"ScopeLinesModel", "length", "(I)I"⟩
def y_Mo_tokens : MethodName := ⟨"ScopeLinesModel", "tokens", "(I)I"⟩
def y_Mo_entry : MethodName := ⟨"ScopeLinesModel", "entry", "(IIZ)I"⟩
def y_Mo_colour : MethodName := ⟨"ScopeLinesModel", "colour", "(I)I"⟩
def y_Mo_token : MethodName := ⟨"ScopeLinesModel", "token", "(III)I"⟩
def y_Mo_marked : MethodName := ⟨"ScopeLinesModel", "marked", "(I)Z"⟩
def y_Mo_state : MethodName := ⟨"ScopeLinesModel", "state", "(II)I"⟩
def y_Mo_text : MethodName := ⟨"ScopeLinesModel", "text", "(III)I"⟩
def y_Mo_find : MethodName := ⟨"ScopeLinesModel", "find", "(IIII)I"⟩
def y_Lw_cell : MethodName := ⟨"ScopeLinesLaw", "cell", "([II)I"⟩
end
section
/-! The heap as numbers: kinds and lengths of the cells, their references, their numbers; cell 0 is null. -/
abbrev zV : Type := Nat × Int
abbrev zH : Type := List (Nat × Nat) × (Nat → Nat → Nat) × (Nat → Nat → Int)
def zw (x : Int) : Int := x.bmod 4294967296
def zq (x : Int) : Int := x.bmod 18446744073709551616
def z_up {α : Type} (f : Nat → Nat → α) (c j : Nat) (x : α) : Nat → Nat → α := fun a b => if a = c ∧ b = j then x else f a b
def zsl (h : zH) : Nat := (h.1.map Prod.snd).sum
def z_gI (h : zH) (k c j : Nat) : Option Int := match h.1[c]? with
  | some q => if q.1 = k then some (h.2.2 c j) else none
  | none => none
def z_gR (h : zH) (k c j : Nat) : Option Nat := match h.1[c]? with
  | some q => if q.1 = k ∧ h.2.1 c j ≠ 0 then some (h.2.1 c j) else none
  | none => none
def z_pI (h : zH) (k c j : Nat) (x : Int) : Option zH := match h.1[c]? with
  | some q => if q.1 = k then some (h.1, h.2.1, z_up h.2.2 c j x) else none
  | none => none
def z_pZ (h : zH) (k c j : Nat) (x : Int) : Option zH := if x = 0 ∨ x = 1 then z_pI h k c j x else none
def z_pR (h : zH) (k c j : Nat) (x : Nat) : Option zH := match h.1[c]? with
  | some q => if q.1 = k then some (h.1, z_up h.2.1 c j x, h.2.2) else none
  | none => none
def z_aI (h : zH) (k c : Nat) (i : Int) : Option Int := match h.1[c]? with
  | some q => if q.1 = k ∧ 0 ≤ i ∧ i < q.2 then some (h.2.2 c i.toNat) else none
  | none => none
def z_aR (h : zH) (k c : Nat) (i : Int) : Option Nat := match h.1[c]? with
  | some q => if q.1 = k ∧ 0 ≤ i ∧ i < q.2 ∧ h.2.1 c i.toNat ≠ 0 then some (h.2.1 c i.toNat) else none
  | none => none
def z_sI (h : zH) (k c : Nat) (i x : Int) : Option zH := match h.1[c]? with
  | some q => if q.1 = k ∧ 0 ≤ i ∧ i < q.2 then some (h.1, h.2.1, z_up h.2.2 c i.toNat x) else none
  | none => none
/-- x is a cell of the kind k2 -/
def z_sR (h : zH) (k k2 c : Nat) (i : Int) (x : Nat) : Option zH := match h.1[c]?, h.1[x]? with
  | some q, some u => if q.1 = k ∧ 0 ≤ i ∧ i < q.2 ∧ u.1 = k2 then some (h.1, z_up h.2.1 c i.toNat x, h.2.2) else none
  | _, _ => none
def z_len (h : zH) (k c : Nat) : Option Int := match h.1[c]? with
  | some q => if q.1 = k then some q.2 else none
  | none => none
def z_new (h : zH) (k n : Nat) : zH := (h.1 ++ [(k, n)], fun a b => if a = h.1.length then 0 else h.2.1 a b, fun a b => if a = h.1.length then 0 else h.2.2 a b)
def z_nwA (h : zH) (k : Nat) (n : Int) : Option zH := if 0 ≤ n ∧ n ≤ 100000 then some (z_new h k n.toNat) else none
def z_cp (h : zH) (k c0 : Nat) (sp : Int) (c1 : Nat) (dp n : Int) : Option zH := match h.1[c0]?, h.1[c1]? with
  | some q, some u => if q.1 = k ∧ u.1 = k ∧ 0 ≤ sp ∧ 0 ≤ dp ∧ 0 ≤ n ∧ sp + n ≤ q.2 ∧ dp + n ≤ u.2 then some (h.1, h.2.1, fun a j => if a = c1 ∧ dp.toNat ≤ j ∧ j < dp.toNat + n.toNat then h.2.2 c0 (sp.toNat + (j - dp.toNat)) else h.2.2 a j) else none
  | _, _ => none
/-- the cell c is of the kind k -/
def z_ck (h : zH) (k c : Nat) : Option Nat := match h.1[c]? with
  | some q => if q.1 = k then some q.2 else none
  | none => none
theorem z_ck_of {h : zH} {k c n : Nat} (e : z_ck h k c = some n) : h.1[c]? = some (k, n) := by
  unfold z_ck at e
  split at e
  · rename_i q hq
    split at e
    · rename_i hk
      obtain ⟨a, b⟩ := q
      cases hk
      cases e
      exact hq
    · cases e
  · cases e
/-- a boolean that goes out -/
def z_bo (x : Int) : Option Int := if x = 0 ∨ x = 1 then some x else none
theorem z_bo_of {x b : Int} (e : z_bo x = some b) : b = x ∧ (x = 0 ∨ x = 1) := by
  unfold z_bo at e
  split at e
  · rename_i h
    exact ⟨(Option.some.inj e).symm, h⟩
  · cases e
def z_max (x y : Int) : Int := if x < y then y else x
def z_min (x y : Int) : Int := if y < x then y else x
def z_and (a b : Int) : Int := (Int32.ofInt a &&& Int32.ofInt b).toInt
def z_land (a b : Int) : Int := (Int64.ofInt a &&& Int64.ofInt b).toInt
def z_lor (a b : Int) : Int := (Int64.ofInt a ||| Int64.ofInt b).toInt
def z_lxor (a b : Int) : Int := (Int64.ofInt a ^^^ Int64.ofInt b).toInt
def z_lshl (a b : Int) : Int := (Int64.ofInt a <<< ((Int32.ofInt b).toInt64 &&& 63)).toInt
def z_lshr (a b : Int) : Int := (Int64.ofInt a >>> ((Int32.ofInt b).toInt64 &&& 63)).toInt
def z_lushr (a b : Int) : Int := ((Int64.ofInt a).toUInt64 >>> ((Int32.ofInt b).toInt64.toUInt64 &&& Int64.toUInt64 63)).toInt64.toInt
def z_lcmp (a b : Int) : Int := if b < a then 1 else if a = b then 0 else -1
def zi32 (x : Int) : Prop := -2147483648 ≤ x ∧ x < 2147483648
def zi64 (x : Int) : Prop := -9223372036854775808 ≤ x ∧ x < 9223372036854775808
theorem zi_w (x : Int) : zi32 (zw x) := by
  have h1 := Int.le_bmod (x := x) (m := 4294967296) (by decide)
  have h2 := Int.bmod_lt (x := x) (m := 4294967296) (by decide)
  unfold zi32 zw
  omega
theorem zi_q (x : Int) : zi64 (zq x) := by
  have h1 := Int.le_bmod (x := x) (m := 18446744073709551616) (by decide)
  have h2 := Int.bmod_lt (x := x) (m := 18446744073709551616) (by decide)
  unfold zi64 zq
  omega
theorem zw_id {x : Int} (h : zi32 x) : zw x = x := by
  unfold zi32 at h
  unfold zw
  rw [Int.bmod_eq_of_le] <;> omega
theorem zi_to (x : Int32) : zi32 x.toInt := by
  have h1 := Int32.le_toInt x
  have h2 := Int32.toInt_lt x
  unfold zi32
  omega
theorem zi_toL (x : Int64) : zi64 x.toInt := by
  have h1 := Int64.le_toInt x
  have h2 := Int64.toInt_lt x
  unfold zi64
  omega
theorem zI_to {x : Int} (h : zi32 x) : (Int32.ofInt x).toInt = x := by
  rw [Int32.toInt_ofInt]
  exact zw_id h
theorem zI_w (x : Int) : Int32.ofInt (zw x) = Int32.ofInt x := by
  apply Int32.toInt_inj.mp
  rw [zI_to (zi_w x), Int32.toInt_ofInt]
  rfl
theorem zL_to {x : Int} (h : zi64 x) : (Int64.ofInt x).toInt = x := by
  rw [Int64.toInt_ofInt]
  unfold zi64 at h
  show x.bmod 18446744073709551616 = x
  rw [Int.bmod_eq_of_le] <;> omega
theorem zL_q (x : Int) : Int64.ofInt (zq x) = Int64.ofInt x := by
  apply Int64.toInt_inj.mp
  rw [zL_to (zi_q x), Int64.toInt_ofInt]
  rfl
theorem zI_of (x : Int32) : Int32.ofInt x.toInt = x := Int32.ofInt_toInt x
theorem zL_of (x : Int64) : Int64.ofInt x.toInt = x := Int64.ofInt_toInt x
theorem zI_eq {x y : Int} (hx : zi32 x) (hy : zi32 y) : Int32.ofInt x = Int32.ofInt y ↔ x = y := by
  constructor
  · intro h
    rw [← zI_to hx, ← zI_to hy, h]
  · intro h
    rw [h]
theorem zI_lt {x y : Int} (hx : zi32 x) (hy : zi32 y) : Int32.ofInt x < Int32.ofInt y ↔ x < y := by
  rw [Int32.lt_iff_toInt_lt, zI_to hx, zI_to hy]
theorem zI_le {x y : Int} (hx : zi32 x) (hy : zi32 y) : Int32.ofInt x ≤ Int32.ofInt y ↔ x ≤ y := by
  rw [Int32.le_iff_toInt_le, zI_to hx, zI_to hy]
theorem zI_cl {x : Int} (hx : zi32 x) : (Int32.ofInt x).toNatClampNeg = x.toNat := by
  show (Int32.ofInt x).toInt.toNat = x.toNat
  rw [zI_to hx]
theorem zI_0 : Int32.ofInt 0 = 0 := rfl
/-- what comes out of a chain -/
theorem z_bd {α β : Type} {o : Option α} {f : α → Option β} {r : β} (h : o.bind f = some r) : ∃ v, o = some v ∧ f v = some r := by
  cases o with
  | none => cases h
  | some v => exact ⟨v, rfl, h⟩
theorem z_it {β : Type} {c : Prop} [Decidable c] {a b : Option β} {r : β} (h : (if c then a else b) = some r) : (c ∧ a = some r) ∨ (¬ c ∧ b = some r) := by
  by_cases hc : c
  · rw [if_pos hc] at h
    exact Or.inl ⟨hc, h⟩
  · rw [if_neg hc] at h
    exact Or.inr ⟨hc, h⟩
def zlit (n : Int) : Bool := decide (-2147483648 ≤ n) && decide (n < 2147483648)
def zlit64 (n : Int) : Bool := decide (-9223372036854775808 ≤ n) && decide (n < 9223372036854775808)
theorem zi_lit {n : Int} (h : zlit n = true) : zi32 n := by
  unfold zlit at h
  simp at h
  exact h
theorem zi_lit64 {n : Int} (h : zlit64 n = true) : zi64 n := by
  unfold zlit64 at h
  simp at h
  exact h
theorem z_m0 {α : Type} {a : α} {l : List α} : a ∈ a :: l := List.mem_cons_self
theorem z_m1 {α : Type} {a b0 : α} {l : List α} : a ∈ b0 :: a :: l := by simp
theorem z_m2 {α : Type} {a b0 b1 : α} {l : List α} : a ∈ b0 :: b1 :: a :: l := by simp
theorem z_m3 {α : Type} {a b0 b1 b2 : α} {l : List α} : a ∈ b0 :: b1 :: b2 :: a :: l := by simp
theorem z_m4 {α : Type} {a b0 b1 b2 b3 : α} {l : List α} : a ∈ b0 :: b1 :: b2 :: b3 :: a :: l := by simp
theorem z_m5 {α : Type} {a b0 b1 b2 b3 b4 : α} {l : List α} : a ∈ b0 :: b1 :: b2 :: b3 :: b4 :: a :: l := by simp
theorem z_m6 {α : Type} {a b0 b1 b2 b3 b4 b5 : α} {l : List α} : a ∈ b0 :: b1 :: b2 :: b3 :: b4 :: b5 :: a :: l := by simp
theorem z_m7 {α : Type} {a b0 b1 b2 b3 b4 b5 b6 : α} {l : List α} : a ∈ b0 :: b1 :: b2 :: b3 :: b4 :: b5 :: b6 :: a :: l := by simp
theorem z_m8 {α : Type} {a b0 b1 b2 b3 b4 b5 b6 b7 : α} {l : List α} : a ∈ b0 :: b1 :: b2 :: b3 :: b4 :: b5 :: b6 :: b7 :: a :: l := by simp
theorem z_m9 {α : Type} {a b0 b1 b2 b3 b4 b5 b6 b7 b8 : α} {l : List α} : a ∈ b0 :: b1 :: b2 :: b3 :: b4 :: b5 :: b6 :: b7 :: b8 :: a :: l := by simp
theorem z_m10 {α : Type} {a b0 b1 b2 b3 b4 b5 b6 b7 b8 b9 : α} {l : List α} : a ∈ b0 :: b1 :: b2 :: b3 :: b4 :: b5 :: b6 :: b7 :: b8 :: b9 :: a :: l := by simp
theorem z_io {β : Type} {c : Prop} [Decidable c] {a : Option β} {r : β} (h : (if c then a else none) = some r) : c ∧ a = some r := by
  rcases z_it h with h | ⟨-, h⟩
  · exact h
  · cases h
end
section
/-! The heap of the machine as the heap of numbers shows it; a run of a method's frame to its return. -/
abbrev zE : Type := va_G × (Nat → ClassId) × Nat × Nat × Cell × Nat × (Nat → Int32)
/-- name, code, locals, answer, frames and words of locals that its calls may take -/
abbrev zM : Type := MethodName × ByteArray × Nat × Option FieldType × Nat × Nat
def zrf (E : zE) (r : Nat) : Value := if r = 0 then .null else .ref (E.2.2.1 + r)
def zcv (E : zE) (v : zV) : Value := match v.1 with
  | 0 => .int (Int32.ofInt v.2)
  | 1 => .long (Int64.ofInt v.2)
  | 2 => zrf E v.2.toNat
  | _ => .ref E.2.2.2.1
def zfv (E : zE) (k j r : Nat) (x : Int) : Value := match zty k j with
  | 0 => .int (Int32.ofInt x)
  | 1 => .long (Int64.ofInt x)
  | _ => zrf E r
def zav (E : zE) (k r : Nat) (x : Int) : Value := if k < 23 then .int (Int32.ofInt x) else if k = 23 then .long (Int64.ofInt x) else zrf E r
def zok (t : Nat) (x : Int) : Prop := match t with
  | 0 => zi32 x
  | 1 => zi64 x
  | 3 => 0 ≤ x ∧ x < 65536
  | _ => True
def ztp (k j : Nat) : Nat := if k < 20 then zty k j else if k = 21 then 3 else if k = 23 then 1 else if k = 24 then 2 else if k = 25 then 2 else 0
def zat (E : zE) (h : zH) (c k n : Nat) (H : Heap) : Prop :=
  if k < 20 then ∃ r : vw_C, classes[k]? = some r ∧ n = r.2.2 ∧ t_OB (E.2.2.1 + c) (E.1.1 k) r.2.2 (E.1.2 k) H (fun j => zfv E k j (h.2.1 c j) (h.2.2 c j))
  else H[E.2.2.1 + c]? = some (arrV (E.2.1 (k - 20)) n (fun j => zav E k (h.2.1 c j) (h.2.2 c j)))
def zRp (E : zE) (h : zH) (H : Heap) : Prop :=
  H.size = E.2.2.1 + h.1.length ∧ h.1[0]? = some (99, E.2.2.2.2.2.1) ∧ (∀ c k n, c ≠ 0 → h.1[c]? = some (k, n) → zat E h c k n H) ∧ (∀ c k n j, h.1[c]? = some (k, n) → zok (ztp k j) (h.2.2 c j)) ∧ (H[E.2.2.2.1]? = some E.2.2.2.2.1 ∧ E.2.2.2.1 ≤ E.2.2.1 ∧ ∀ j : Nat, j < E.2.2.2.2.2.1 → E.2.2.2.2.2.2 j = Int32.ofInt (h.2.2 0 j))
def zSf (E : zE) (H0 H : Heap) (locs : List Loc) : Prop := (∀ q : Nat, q ≤ E.2.2.1 → H[q]? = H0[q]?) ∧ (∀ l ∈ locs, E.2.2.1 < l.base) ∧ H0.size ≤ H.size
def zTys (E : zE) : List (ClassId × FieldType) := [(E.2.1 0, .int), (E.2.1 1, .char), (E.2.1 2, .boolean), (E.2.1 3, .long), (E.2.1 4, .object "ScopeLines$Rule"), (E.2.1 5, .object "ScopeLines$Line")]
def zSt (E : zE) (U : State) : Prop := va_K E.1 classes (zTys E) U ∧ (∀ w ∈ zNW, va_Nw w U) ∧ (va_AO "ScopeLines$Rule" U ∧ va_AO "ScopeLines$Line" U) ∧ U.isArrayOf E.2.2.2.2.1 .int ∧ E.2.2.2.2.1.vm ≠ .unknown ∧ E.2.2.2.2.1.slots.size = E.2.2.2.2.2.1 ∧ ∀ j : Nat, j < E.2.2.2.2.2.1 → E.2.2.2.2.1.slots[j]? = some (.int (E.2.2.2.2.2.2 j))
def zgood (w : Cond) : Bool := (w.onTables && w.keeps) || (match w with | .arrayClass _ => true | _ => false)
def zGW : List Cond := lw_tbl.filter zgood
theorem zgood_or {w : Cond} (h : zgood w = true) : (w.onTables && w.keeps) = true ∨ ∃ ty, w = .arrayClass ty := by
  unfold zgood at h
  rcases Bool.or_eq_true _ _ ▸ h with h | h
  · exact Or.inl h
  · cases w <;> first | exact Or.inr ⟨_, rfl⟩ | cases h
def zws (M : zM) : List Cond := .code M.1 M.2.1 M.2.2.1 M.2.2.2.1 :: zGW
theorem zGood {M : zM} (h : Cond.code M.1 M.2.1 M.2.2.1 M.2.2.2.1 ∈ zGW) : GoodIn zGW (zws M) := by
  intro w hw
  have h1 : w ∈ zGW := by
    rcases List.mem_cons.mp hw with rfl | h2
    · exact h
    · exact h2
  exact ⟨h1, zgood_or (List.mem_filter.mp h1).2⟩
theorem zSt.moved {E : zE} {s U : State} (hW : s.WarmedH U.vm) (h : zSt E s) : zSt E U := by
  obtain ⟨h1, h2, ⟨h3, h4⟩, h5, h6⟩ := h
  refine ⟨va_K.moved hW.alike h1, fun w hw => ?_, ⟨h3.moved hW.alike, h4.moved hW.alike⟩, State.isArrayOf_alike hW.alike h5, h6⟩
  have hn := zNW_nest w hw
  have hz := h2 w hw
  cases w <;> first | exact va_Nw.warmF hW hz | exact va_Nw.warmM hW hz | cases hn
def zCx (M : zM) (E : zE) (p : Program) (s : State) (m : MethodId) (args : Array Value) (meth : Method) (c : Code) : Prop :=
  p.tables.exec = Jvm.exec ∧ c.code = M.2.1 ∧ meth.sig.returnType = M.2.2.2.1 ∧ c.maxLocals = M.2.2.1 ∧ s.vm.findClass M.1.cls = some m.cls ∧ (∀ w ∈ zGW, w.before args s = true) ∧ zSt E s ∧ meth.locks = false ∧ meth.name = M.1.name
def zcn (v : zV) : Prop := match v.1 with
  | 0 => zi32 v.2
  | 1 => zi64 v.2
  | 2 => 0 < v.2
  | _ => True
def zcnS (st : List zV) : Prop := ∀ v ∈ st, zcn v
def zcnL (L : List (Nat × zV)) : Prop := ∀ q ∈ L, zcn q.2
def zcnO (o : Option zV) : Prop := ∀ v, o = some v → zcn v
/-- the answer is of the method's type -/
def zrt (M : zM) (o : Option zV) : Prop := match o with
  | none => M.2.2.2.1 = none
  | some v => (v.1 = 0 ∧ M.2.2.2.1 = some .int) ∨ (v.1 = 0 ∧ M.2.2.2.1 = some .boolean ∧ (v.2 = 0 ∨ v.2 = 1)) ∨ (v.1 = 2 ∧ ∃ C, M.2.2.2.1 = some (.object C))
def zri (o : Option zV) : Instr := match o with
  | none => .return_
  | some v => if v.1 = 0 then .ireturn else .areturn
def zG (M : zM) (E : zE) (p : Program) (R : Room) (s : State) (m : MethodId) (args : Array Value) (meth : Method) (c : Code) (L : List (Nat × zV)) (st : List zV) (h : zH) (H : Heap) (locs : List Loc) (cells slots n0 s0 : Nat) (ls : Array Slot) (r : Option zV × zH) : Prop :=
  zCx M E p s m args meth c ∧ (M.2.2.2.2.1 ≤ R.frames ∧ M.2.2.2.2.2 ≤ R.locals) ∧ lv_has ls M.2.2.1 (L.map fun q => (q.1, zcv E q.2)) ∧ zcnL L ∧ zcnS st ∧ zRp E h H ∧ zSf E s.heap H locs ∧ (cells + n0 = h.1.length ∧ slots + s0 = zsl h ∧ r.2.1.length ≤ R.cells + n0 ∧ zsl r.2 ≤ R.slots + s0)
def zF (M : zM) (E : zE) (p : Program) (l : Launch) (e : Env) (R : Room) (s : State) (m : MethodId) (args : Array Value) (below : List Frame) (meth : Method) (c : Code) (n0 s0 : Nat) (Q : State → Prop) (r : Option zV × zH) : Prop :=
  ∀ (pc : Nat) (ls : Array Slot) (H : Heap) (locs : List Loc) (cells slots : Nat), decode M.2.1 pc = .ok (zri r.1, 1) → zrt M r.1 → zcnO r.1 → zRp E r.2 H → zSf E s.heap H locs → cells + n0 = r.2.1.length → slots + s0 = zsl r.2 →
    W p l e R s m args below meth c H locs cells slots Q (F0 m pc ls (r.1.toList.map (zcv E)))
/-- from this frame the method comes to its return, with r -/
def zK (M : zM) (pc : Nat) (L : List (Nat × zV)) (st : List zV) (h : zH) (r : Option zV × zH) : Prop :=
  (h.1.length ≤ r.2.1.length ∧ zsl h ≤ zsl r.2) ∧
  ∀ (E : zE) (p : Program) (l : Launch) (e : Env) (R : Room) (s : State) (m : MethodId) (args : Array Value) (below : List Frame) (meth : Method) (c : Code) (H : Heap) (locs : List Loc) (cells slots n0 s0 : Nat) (Q : State → Prop) (ls : Array Slot),
    zG M E p R s m args meth c L st h H locs cells slots n0 s0 ls r → zF M E p l e R s m args below meth c n0 s0 Q r →
    W p l e R s m args below meth c H locs cells slots Q (F0 m pc ls (st.map (zcv E)))
def zPc (E : zE) (as : List zV) (h : zH) : Array Value → State → Prop := fun v U => v = (as.map (zcv E)).toArray ∧ zRp E h U.heap ∧ zSt E U
def zQc (E : zE) (r : Option zV × zH) : Array Value → State → Outcome → State → Prop := fun _ st oc t => oc = .returned (r.1.map (zcv E)) ∧ zcnO r.1 ∧ zRp E r.2 t.heap ∧ (∀ q : Nat, q ≤ E.2.2.1 → t.heap[q]? = st.heap[q]?) ∧ st.heap.size ≤ t.heap.size
/-- the method's contract at these arguments and this heap: it comes back with r -/
def zMt (M : zM) (as : List zV) (h : zH) (r : Option zV × zH) : Prop :=
  (h.1.length ≤ r.2.1.length ∧ zsl h ≤ zsl r.2) ∧ (zcnS as → ∀ (E : zE) (l : Launch), Met l M.1 (zws M) { frames := M.2.2.2.2.1, cells := r.2.1.length - h.1.length, slots := zsl r.2 - zsl h, locals := M.2.2.2.2.2 } (zPc E as h) (zQc E r) (r.2.1.length - h.1.length) (zsl r.2 - zsl h) (fun q => E.2.2.1 < q))
theorem zRp.sz {E : zE} {h : zH} {H : Heap} (hR : zRp E h H) {c k n : Nat} (hc : h.1[c]? = some (k, n)) : E.2.2.1 + c < H.size := by
  rw [hR.1]
  have := (List.getElem?_eq_some_iff.mp hc).1
  omega
theorem zRp.c0 {E : zE} {h : zH} {H : Heap} (hR : zRp E h H) {c k n : Nat} (hc : h.1[c]? = some (k, n)) (hk : k ≠ 99) : c ≠ 0 := by
  intro h0
  subst h0
  have := hR.2.1.symm.trans hc
  simp at this
  exact hk this.1.symm
theorem zcnS.cons {v : zV} {st : List zV} (h1 : zcn v) (h2 : zcnS st) : zcnS (v :: st) := by
  intro w hw
  rcases List.mem_cons.mp hw with rfl | h
  · exact h1
  · exact h2 w h
theorem zcnS.tail {v : zV} {st : List zV} (h : zcnS (v :: st)) : zcnS st := fun w hw => h w (List.mem_cons_of_mem _ hw)
theorem zcnS.head {v : zV} {st : List zV} (h : zcnS (v :: st)) : zcn v := h v List.mem_cons_self
theorem zcn_ne {c : Nat} (h : zcn (2, (c : Int))) : c ≠ 0 := by
  have h : 0 < (c : Int) := h
  omega
theorem zcn_of {c : Nat} (h : c ≠ 0) : zcn (2, (c : Int)) := by
  show 0 < (c : Int)
  omega
section ZG
variable {M : zM} {E : zE} {p : Program} {l : Launch} {e : Env} {R : Room} {s : State} {m : MethodId} {args : Array Value} {below : List Frame} {meth : Method} {c : Code} {L : List (Nat × zV)} {st : List zV} {h : zH} {H : Heap} {locs : List Loc} {cells slots n0 s0 : Nat} {ls : Array Slot} {r : Option zV × zH}
theorem zG.hx (g : zG M E p R s m args meth c L st h H locs cells slots n0 s0 ls r) : p.tables.exec = Jvm.exec := g.1.1
theorem zG.hb (g : zG M E p R s m args meth c L st h H locs cells slots n0 s0 ls r) : c.code = M.2.1 := g.1.2.1
theorem zG.hml (g : zG M E p R s m args meth c L st h H locs cells slots n0 s0 ls r) : c.maxLocals = M.2.2.1 := g.1.2.2.2.1
theorem zG.own (g : zG M E p R s m args meth c L st h H locs cells slots n0 s0 ls r) : s.vm.findClass M.1.cls = some m.cls := g.1.2.2.2.2.1
theorem zG.hts (g : zG M E p R s m args meth c L st h H locs cells slots n0 s0 ls r) : ∀ w ∈ zGW, w.before args s = true := g.1.2.2.2.2.2.1
theorem zG.hst (g : zG M E p R s m args meth c L st h H locs cells slots n0 s0 ls r) : zSt E s := g.1.2.2.2.2.2.2.1
theorem zG.hK (g : zG M E p R s m args meth c L st h H locs cells slots n0 s0 ls r) : va_K E.1 classes (zTys E) s := g.1.2.2.2.2.2.2.1.1
theorem zG.nm (g : zG M E p R s m args meth c L st h H locs cells slots n0 s0 ls r) : meth.name = M.1.name := g.1.2.2.2.2.2.2.2.2
theorem zG.lv (g : zG M E p R s m args meth c L st h H locs cells slots n0 s0 ls r) : lv_has ls M.2.2.1 (L.map fun q => (q.1, zcv E q.2)) := g.2.2.1
theorem zG.cnL (g : zG M E p R s m args meth c L st h H locs cells slots n0 s0 ls r) : zcnL L := g.2.2.2.1
theorem zG.cnS (g : zG M E p R s m args meth c L st h H locs cells slots n0 s0 ls r) : zcnS st := g.2.2.2.2.1
theorem zG.rp (g : zG M E p R s m args meth c L st h H locs cells slots n0 s0 ls r) : zRp E h H := g.2.2.2.2.2.1
theorem zG.sf (g : zG M E p R s m args meth c L st h H locs cells slots n0 s0 ls r) : zSf E s.heap H locs := g.2.2.2.2.2.2.1
theorem zG.stk (g : zG M E p R s m args meth c L st h H locs cells slots n0 s0 ls r) {st' : List zV} (hs : zcnS st') : zG M E p R s m args meth c L st' h H locs cells slots n0 s0 ls r :=
  ⟨g.1, g.2.1, g.2.2.1, g.2.2.2.1, hs, g.2.2.2.2.2⟩
theorem zG.loc (g : zG M E p R s m args meth c L st h H locs cells slots n0 s0 ls r) {st' : List zV} (hs : zcnS st') {L' : List (Nat × zV)} {ls' : Array Slot} (hl : lv_has ls' M.2.2.1 (L'.map fun q => (q.1, zcv E q.2))) (hc : zcnL L') : zG M E p R s m args meth c L' st' h H locs cells slots n0 s0 ls' r :=
  ⟨g.1, g.2.1, hl, hc, hs, g.2.2.2.2.2⟩
theorem zG.hp (g : zG M E p R s m args meth c L st h H locs cells slots n0 s0 ls r) {st' : List zV} (hs : zcnS st') {h' : zH} {H' : Heap} {locs' : List Loc} {cells' slots' : Nat} (hr : zRp E h' H') (hf : zSf E s.heap H' locs') (h1 : cells' + n0 = h'.1.length) (h2 : slots' + s0 = zsl h') : zG M E p R s m args meth c L st' h' H' locs' cells' slots' n0 s0 ls r :=
  ⟨g.1, g.2.1, g.2.2.1, g.2.2.2.1, hs, hr, hf, h1, h2, g.2.2.2.2.2.2.2.2.2⟩
end ZG
end
section
/-! Rows: instructions that touch the stack and the locals alone. -/
theorem zgo {M : zM} {E : zE} {p : Program} {l : Launch} {e : Env} {R : Room} {s : State} {m : MethodId} {args : Array Value} {below : List Frame} {meth : Method} {c : Code} {L : List (Nat × zV)} {st st' : List zV} {h : zH} {H : Heap} {locs : List Loc} {cells slots n0 s0 : Nat} {Q : State → Prop} {ls : Array Slot} {r : Option zV × zH} {pc : Nat}
    (k : zK M pc L st' h r) (g : zG M E p R s m args meth c L st h H locs cells slots n0 s0 ls r) (f : zF M E p l e R s m args below meth c n0 s0 Q r) (hs : zcnS st') {v : List Value} (hv : st'.map (zcv E) = v) : W p l e R s m args below meth c H locs cells slots Q (F0 m pc ls v) :=
  hv ▸ k.2 E p l e R s m args below meth c H locs cells slots n0 s0 Q ls (g.stk hs) f
theorem zcn_l {L : List (Nat × zV)} (hL : zcnL L) {i : Nat} {v : zV} (hi : (i, v) ∈ L) : zcn v := hL _ hi
theorem zlv {E : zE} {ls : Array Slot} {nL : Nat} {L : List (Nat × zV)} (h : lv_has ls nL (L.map fun q => (q.1, zcv E q.2))) {i : Nat} {v : zV} (hi : (i, v) ∈ L) : ls[i]? = some (.val (zcv E v)) := h.2.2 (i, zcv E v) (List.mem_map.mpr ⟨(i, v), hi, rfl⟩)
theorem zvI (E : zE) (x : Int) : zcv E (0, x) = .int (Int32.ofInt x) := rfl
theorem zvL (E : zE) (x : Int) : zcv E (1, x) = .long (Int64.ofInt x) := rfl
theorem zvR (E : zE) (c : Nat) : zcv E (2, (c : Int)) = zrf E c := rfl
theorem zrf_ne {E : zE} {c : Nat} (h : c ≠ 0) : zrf E c = .ref (E.2.2.1 + c) := if_neg h
theorem zcat (E : zE) (v : zV) : ((zcv E v).category == 2) = (v.1 == 1) := by
  obtain ⟨t, x⟩ := v
  match t with
  | 0 => rfl
  | 1 => rfl
  | 2 =>
    show ((zrf E x.toNat).category == 2) = false
    unfold zrf
    split <;> rfl
  | (n + 3) => rfl
def zst1 (i : Nat) (v : zV) (L : List (Nat × zV)) : List (Nat × zV) := (i, v) :: L.filter (fun q => !(q.1 == i) && !(q.1 + 1 == i && q.2.1 == 1))
def zst2 (i : Nat) (v : zV) (L : List (Nat × zV)) : List (Nat × zV) := (i, v) :: L.filter (fun q => !(q.1 == i) && (!(q.1 == i + 1) && !(q.1 + 1 == i && q.2.1 == 1)))
theorem zst1_map (E : zE) (i : Nat) (v : zV) (L : List (Nat × zV)) : (i, zcv E v) :: (L.map fun q => (q.1, zcv E q.2)).filter (fun q => !(q.1 == i) && !(q.1 + 1 == i && q.2.category == 2)) = (zst1 i v L).map fun q => (q.1, zcv E q.2) := by
  unfold zst1
  rw [List.map_cons, List.filter_map]
  congr 2
  apply List.filter_congr
  intro q _
  simp only [Function.comp, zcat]
theorem zst2_map (E : zE) (i : Nat) (v : zV) (L : List (Nat × zV)) : (i, zcv E v) :: (L.map fun q => (q.1, zcv E q.2)).filter (fun q => !(q.1 == i) && (!(q.1 == i + 1) && !(q.1 + 1 == i && q.2.category == 2))) = (zst2 i v L).map fun q => (q.1, zcv E q.2) := by
  unfold zst2
  rw [List.map_cons, List.filter_map]
  congr 2
  apply List.filter_congr
  intro q _
  simp only [Function.comp, zcat]
theorem zst1_cn {i : Nat} {v : zV} {L : List (Nat × zV)} (hv : zcn v) (hL : zcnL L) : zcnL (zst1 i v L) := by
  intro q hq
  rcases List.mem_cons.mp hq with rfl | h
  · exact hv
  · exact hL q (List.mem_filter.mp h).1
theorem zst2_cn {i : Nat} {v : zV} {L : List (Nat × zV)} (hv : zcn v) (hL : zcnL L) : zcnL (zst2 i v L) := by
  intro q hq
  rcases List.mem_cons.mp hq with rfl | h
  · exact hv
  · exact hL q (List.mem_filter.mp h).1
/-- fewer locals, in another order -/
theorem k_sub {M : zM} {pc : Nat} {L : List (Nat × zV)} {st : List zV} {h : zH} {r : Option zV × zH} {L' : List (Nat × zV)} (ks : List Nat) (hl : ks.filterMap (fun i => L[i]?) = L') (k : zK M pc L' st h r) : zK M pc L st h r := by
  have hin : ∀ q ∈ L', q ∈ L := by
    intro q hq
    rw [← hl] at hq
    obtain ⟨i, -, hi⟩ := List.mem_filterMap.mp hq
    exact List.mem_of_getElem? hi
  refine ⟨k.1, fun E p l e R s m args below meth c H locs cells slots n0 s0 Q ls g f =>  k.2 E p l e R s m args below meth c H locs cells slots n0 s0 Q ls (g.loc g.cnS ⟨g.lv.1, g.lv.2.1, fun q hq => ?_⟩ (fun q hq => g.cnL q (hin q hq))) f⟩
  obtain ⟨u, hu, rfl⟩ := List.mem_map.mp hq
  exact g.lv.2.2 _ (List.mem_map.mpr ⟨u, hin u hu, rfl⟩)
theorem zi2l {x : Int} (h : zcn (0, x)) : (Int32.ofInt x).toInt64 = Int64.ofInt x := by
  apply Int64.toInt_inj.mp
  rw [Int32.toInt_toInt64, zI_to h, zL_to]
  have h : zi32 x := h
  unfold zi32 at h
  unfold zi64
  omega
theorem zi2l_cn {x : Int} (h : zcn (0, x)) : zcn (1, x) := by
  have h : zi32 x := h
  show zi64 x
  unfold zi32 at h
  unfold zi64
  omega
theorem zl2i (x : Int) : (Int64.ofInt x).toInt32 = Int32.ofInt (zw x) := by
  rw [zI_w]
  exact Int64.toInt32_ofInt
theorem zi2c_cn (x : Int) : zcn (0, x % 65536) := by
  show zi32 _
  unfold zi32
  omega
theorem zi2c (x : Int) : ((Int32.ofInt x).toUInt32 % 65536).toInt32 = Int32.ofInt (x % 65536) := by
  rw [pk_char]
  unfold nI
  apply Int32.toBitVec_inj.mp
  apply BitVec.eq_of_toNat_eq
  simp
  omega
theorem zcat1 (E : zE) {v : zV} (h : v.1 = 0 ∨ v.1 = 2) : (zcv E v).category = 1 := by
  obtain ⟨t, x⟩ := v
  rcases h with h | h
  · cases h
    rfl
  · cases h
    show (zrf E x.toNat).category = 1
    unfold zrf
    split <;> rfl
theorem k_iconst {M : zM} {pc : Nat} {L : List (Nat × zV)} {st : List zV} {h : zH} {r : Option zV × zH} {n : Int} (hn : zi32 n) (hd : decode M.2.1 pc = .ok (.iconst n, 1)) (k : zK M (pc + 1) L ((0, n) :: st) h r) : zK M pc L (st) h r :=
  ⟨k.1, fun E p l e R s m args below meth c H locs cells slots n0 s0 Q ls g f => lv_iconst g.hx g.hb hd rfl (zgo k g f (g.cnS.cons hn) rfl)⟩
theorem k_bipush {M : zM} {pc : Nat} {L : List (Nat × zV)} {st : List zV} {h : zH} {r : Option zV × zH} {n : Int} (hn : zi32 n) (hv : (Int8.ofInt n).toInt32 = Int32.ofInt n) (hd : decode M.2.1 pc = .ok (.bipush n, 2)) (k : zK M (pc + 2) L ((0, n) :: st) h r) : zK M pc L (st) h r :=
  ⟨k.1, fun E p l e R s m args below meth c H locs cells slots n0 s0 Q ls g f => lv_bipush g.hx g.hb hd hv (zgo k g f (g.cnS.cons hn) rfl)⟩
theorem k_sipush {M : zM} {pc : Nat} {L : List (Nat × zV)} {st : List zV} {h : zH} {r : Option zV × zH} {n : Int} (hn : zi32 n) (hv : (Int16.ofInt n).toInt32 = Int32.ofInt n) (hd : decode M.2.1 pc = .ok (.sipush n, 3)) (k : zK M (pc + 3) L ((0, n) :: st) h r) : zK M pc L (st) h r :=
  ⟨k.1, fun E p l e R s m args below meth c H locs cells slots n0 s0 Q ls g f => lv_sipush g.hx g.hb hd hv (zgo k g f (g.cnS.cons hn) rfl)⟩
theorem k_lconst {M : zM} {pc : Nat} {L : List (Nat × zV)} {st : List zV} {h : zH} {r : Option zV × zH} {n : Fin 2} {x : Int} (hn : zi64 x) (hv : Int64.ofNat (n : Nat) = Int64.ofInt x) (hd : decode M.2.1 pc = .ok (.lconst n, 1)) (k : zK M (pc + 1) L ((1, x) :: st) h r) : zK M pc L (st) h r :=
  ⟨k.1, fun E p l e R s m args below meth c H locs cells slots n0 s0 Q ls g f => lv_lconst g.hx g.hb hd hv (zgo k g f (g.cnS.cons hn) rfl)⟩
theorem k_ldc2 {M : zM} {pc : Nat} {L : List (Nat × zV)} {st : List zV} {h : zH} {r : Option zV × zH} {i : Nat} {x : Int} (hn : zi64 x) (hw : Cond.constantLong M.1.cls i (Int64.ofInt x) ∈ zGW) (hd : decode M.2.1 pc = .ok (.ldc2_w i, 3)) (k : zK M (pc + 3) L ((1, x) :: st) h r) : zK M pc L (st) h r :=
  ⟨k.1, fun E p l e R s m args below meth c H locs cells slots n0 s0 Q ls g f => lv_ldc2 g.hx g.hb g.own (g.hts _ hw) hd (zgo k g f (g.cnS.cons hn) rfl)⟩
theorem k_iload_n {M : zM} {pc : Nat} {L : List (Nat × zV)} {st : List zV} {h : zH} {r : Option zV × zH} {n : Fin 4} {i : Nat} {x : Int} (hi : (n : Nat) = i) (hl : (i, ((0, x) : zV)) ∈ L) (hd : decode M.2.1 pc = .ok (.iload_n n, 1)) (k : zK M (pc + 1) L ((0, x) :: st) h r) : zK M pc L (st) h r :=
  ⟨k.1, fun E p l e R s m args below meth c H locs cells slots n0 s0 Q ls g f => lv_iload_n g.hx g.hb hd hi (zlv g.lv hl) (zgo k g f (g.cnS.cons (zcn_l g.cnL hl)) rfl)⟩
theorem k_iload {M : zM} {pc : Nat} {L : List (Nat × zV)} {st : List zV} {h : zH} {r : Option zV × zH} {i : Nat} {x : Int} (hl : (i, ((0, x) : zV)) ∈ L) (hd : decode M.2.1 pc = .ok (.iload i, 2)) (k : zK M (pc + 2) L ((0, x) :: st) h r) : zK M pc L (st) h r :=
  ⟨k.1, fun E p l e R s m args below meth c H locs cells slots n0 s0 Q ls g f => lv_iload g.hx g.hb hd (zlv g.lv hl) (zgo k g f (g.cnS.cons (zcn_l g.cnL hl)) rfl)⟩
theorem k_lload_n {M : zM} {pc : Nat} {L : List (Nat × zV)} {st : List zV} {h : zH} {r : Option zV × zH} {n : Fin 4} {i : Nat} {x : Int} (hi : (n : Nat) = i) (hl : (i, ((1, x) : zV)) ∈ L) (hd : decode M.2.1 pc = .ok (.lload_n n, 1)) (k : zK M (pc + 1) L ((1, x) :: st) h r) : zK M pc L (st) h r :=
  ⟨k.1, fun E p l e R s m args below meth c H locs cells slots n0 s0 Q ls g f => lv_lload_n g.hx g.hb hd hi (zlv g.lv hl) (zgo k g f (g.cnS.cons (zcn_l g.cnL hl)) rfl)⟩
theorem k_lload {M : zM} {pc : Nat} {L : List (Nat × zV)} {st : List zV} {h : zH} {r : Option zV × zH} {i : Nat} {x : Int} (hl : (i, ((1, x) : zV)) ∈ L) (hd : decode M.2.1 pc = .ok (.lload i, 2)) (k : zK M (pc + 2) L ((1, x) :: st) h r) : zK M pc L (st) h r :=
  ⟨k.1, fun E p l e R s m args below meth c H locs cells slots n0 s0 Q ls g f => lv_lload g.hx g.hb hd (zlv g.lv hl) (zgo k g f (g.cnS.cons (zcn_l g.cnL hl)) rfl)⟩
theorem k_aload_n {M : zM} {pc : Nat} {L : List (Nat × zV)} {st : List zV} {h : zH} {r : Option zV × zH} {n : Fin 4} {i c' : Nat} (hi : (n : Nat) = i) (hl : (i, ((2, (c' : Int)) : zV)) ∈ L) (hd : decode M.2.1 pc = .ok (.aload_n n, 1)) (k : zK M (pc + 1) L ((2, (c' : Int)) :: st) h r) : zK M pc L (st) h r :=
  ⟨k.1, fun E p l e R s m args below meth c H locs cells slots n0 s0 Q ls g f => lv_aload_n (x := E.2.2.1 + c') g.hx g.hb hd hi (by have := zlv g.lv hl; rw [zvR, zrf_ne (zcn_ne (zcn_l g.cnL hl))] at this; exact this) (zgo k g f (g.cnS.cons (zcn_l g.cnL hl)) (by rw [List.map_cons, zvR, zrf_ne (zcn_ne (zcn_l g.cnL hl))]))⟩
theorem k_aload {M : zM} {pc : Nat} {L : List (Nat × zV)} {st : List zV} {h : zH} {r : Option zV × zH} {i c' : Nat} (hl : (i, ((2, (c' : Int)) : zV)) ∈ L) (hd : decode M.2.1 pc = .ok (.aload i, 2)) (k : zK M (pc + 2) L ((2, (c' : Int)) :: st) h r) : zK M pc L (st) h r :=
  ⟨k.1, fun E p l e R s m args below meth c H locs cells slots n0 s0 Q ls g f => lv_aload (x := E.2.2.1 + c') g.hx g.hb hd (by have := zlv g.lv hl; rw [zvR, zrf_ne (zcn_ne (zcn_l g.cnL hl))] at this; exact this) (zgo k g f (g.cnS.cons (zcn_l g.cnL hl)) (by rw [List.map_cons, zvR, zrf_ne (zcn_ne (zcn_l g.cnL hl))]))⟩
theorem k_aload_s {M : zM} {pc : Nat} {L : List (Nat × zV)} {st : List zV} {h : zH} {r : Option zV × zH} {n : Fin 4} {i : Nat} (hi : (n : Nat) = i) (hl : (i, ((3, 0) : zV)) ∈ L) (hd : decode M.2.1 pc = .ok (.aload_n n, 1)) (k : zK M (pc + 1) L ((3, 0) :: st) h r) : zK M pc L (st) h r :=
  ⟨k.1, fun E p l e R s m args below meth c H locs cells slots n0 s0 Q ls g f => lv_aload_n (x := E.2.2.2.1) g.hx g.hb hd hi (zlv g.lv hl) (zgo k g f (g.cnS.cons trivial) rfl)⟩
theorem k_istore_n {M : zM} {pc : Nat} {L : List (Nat × zV)} {st : List zV} {h : zH} {r : Option zV × zH} {L' : List (Nat × zV)} {n : Fin 4} {i : Nat} {x : Int} (hi : (n : Nat) = i) (hd : decode M.2.1 pc = .ok (.istore_n n, 1)) (hn : i < M.2.2.1) (hL : zst1 i (0, x) L = L') (k : zK M (pc + 1) L' st h r) : zK M pc L ((0, x) :: st) h r := by
  subst hL
  exact ⟨k.1, fun E p l e R s m args below meth c H locs cells slots n0 s0 Q ls g f => lv_istore_n (x := Int32.ofInt x) g.hx g.hb hd hi g.lv hn (zst1_map E i (0, x) L) (fun ls' hl' => k.2 E p l e R s m args below meth c H locs cells slots n0 s0 Q ls' (g.loc g.cnS.tail hl' (zst1_cn g.cnS.head g.cnL)) f)⟩
theorem k_istore {M : zM} {pc : Nat} {L : List (Nat × zV)} {st : List zV} {h : zH} {r : Option zV × zH} {L' : List (Nat × zV)} {i : Nat} {x : Int} (hd : decode M.2.1 pc = .ok (.istore i, 2)) (hn : i < M.2.2.1) (hL : zst1 i (0, x) L = L') (k : zK M (pc + 2) L' st h r) : zK M pc L ((0, x) :: st) h r := by
  subst hL
  exact ⟨k.1, fun E p l e R s m args below meth c H locs cells slots n0 s0 Q ls g f => lv_istore (x := Int32.ofInt x) g.hx g.hb hd g.lv hn (zst1_map E i (0, x) L) (fun ls' hl' => k.2 E p l e R s m args below meth c H locs cells slots n0 s0 Q ls' (g.loc g.cnS.tail hl' (zst1_cn g.cnS.head g.cnL)) f)⟩
theorem k_lstore {M : zM} {pc : Nat} {L : List (Nat × zV)} {st : List zV} {h : zH} {r : Option zV × zH} {L' : List (Nat × zV)} {i : Nat} {x : Int} (hd : decode M.2.1 pc = .ok (.lstore i, 2)) (hn : i + 1 < M.2.2.1) (hL : zst2 i (1, x) L = L') (k : zK M (pc + 2) L' st h r) : zK M pc L ((1, x) :: st) h r := by
  subst hL
  exact ⟨k.1, fun E p l e R s m args below meth c H locs cells slots n0 s0 Q ls g f => lv_lstore (x := Int64.ofInt x) g.hx g.hb hd g.lv hn (zst2_map E i (1, x) L) (fun ls' hl' => k.2 E p l e R s m args below meth c H locs cells slots n0 s0 Q ls' (g.loc g.cnS.tail hl' (zst2_cn g.cnS.head g.cnL)) f)⟩
theorem k_lstore_n {M : zM} {pc : Nat} {L : List (Nat × zV)} {st : List zV} {h : zH} {r : Option zV × zH} {L' : List (Nat × zV)} {n : Fin 4} {i : Nat} {x : Int} (hi : (n : Nat) = i) (hd : decode M.2.1 pc = .ok (.lstore_n n, 1)) (hn : i + 1 < M.2.2.1) (hL : zst2 i (1, x) L = L') (k : zK M (pc + 1) L' st h r) : zK M pc L ((1, x) :: st) h r := by
  subst hL
  exact ⟨k.1, fun E p l e R s m args below meth c H locs cells slots n0 s0 Q ls g f => lv_lstore_n (x := Int64.ofInt x) g.hx g.hb hd hi g.lv hn (zst2_map E i (1, x) L) (fun ls' hl' => k.2 E p l e R s m args below meth c H locs cells slots n0 s0 Q ls' (g.loc g.cnS.tail hl' (zst2_cn g.cnS.head g.cnL)) f)⟩
theorem k_astore_n {M : zM} {pc : Nat} {L : List (Nat × zV)} {st : List zV} {h : zH} {r : Option zV × zH} {L' : List (Nat × zV)} {n : Fin 4} {i c' : Nat} (hi : (n : Nat) = i) (hd : decode M.2.1 pc = .ok (.astore_n n, 1)) (hn : i < M.2.2.1) (hL : zst1 i (2, (c' : Int)) L = L') (k : zK M (pc + 1) L' st h r) : zK M pc L ((2, (c' : Int)) :: st) h r := by
  subst hL
  refine ⟨k.1, fun E p l e R s m args below meth c H locs cells slots n0 s0 Q ls g f => ?_⟩
  have hc := zcn_ne g.cnS.head
  rw [List.map_cons, zvR, zrf_ne hc]
  have hz := zst1_map E i (2, (c' : Int)) L
  rw [zvR, zrf_ne hc] at hz
  exact lv_astore_n (x := E.2.2.1 + c') g.hx g.hb hd hi g.lv hn hz (fun ls' hl' => k.2 E p l e R s m args below meth c H locs cells slots n0 s0 Q ls' (g.loc g.cnS.tail hl' (zst1_cn g.cnS.head g.cnL)) f)
theorem k_astore {M : zM} {pc : Nat} {L : List (Nat × zV)} {st : List zV} {h : zH} {r : Option zV × zH} {L' : List (Nat × zV)} {i c' : Nat} (hd : decode M.2.1 pc = .ok (.astore i, 2)) (hn : i < M.2.2.1) (hL : zst1 i (2, (c' : Int)) L = L') (k : zK M (pc + 2) L' st h r) : zK M pc L ((2, (c' : Int)) :: st) h r := by
  subst hL
  refine ⟨k.1, fun E p l e R s m args below meth c H locs cells slots n0 s0 Q ls g f => ?_⟩
  have hc := zcn_ne g.cnS.head
  rw [List.map_cons, zvR, zrf_ne hc]
  have hz := zst1_map E i (2, (c' : Int)) L
  rw [zvR, zrf_ne hc] at hz
  exact lv_astore (x := E.2.2.1 + c') g.hx g.hb hd g.lv hn hz (fun ls' hl' => k.2 E p l e R s m args below meth c H locs cells slots n0 s0 Q ls' (g.loc g.cnS.tail hl' (zst1_cn g.cnS.head g.cnL)) f)
theorem k_iinc {M : zM} {pc : Nat} {L : List (Nat × zV)} {st : List zV} {h : zH} {r : Option zV × zH} {L' : List (Nat × zV)} {i : Nat} {n x : Int} (hl : (i, ((0, x) : zV)) ∈ L) (hd : decode M.2.1 pc = .ok (.iinc i n, 3)) (hn : i < M.2.2.1) (hL : zst1 i (0, zw (x + n)) L = L') (k : zK M (pc + 3) L' st h r) : zK M pc L st h r := by
  subst hL
  refine ⟨k.1, fun E p l e R s m args below meth c H locs cells slots n0 s0 Q ls g f => ?_⟩
  obtain ⟨q, hq⟩ := List.getElem?_of_mem (List.mem_map.mpr ⟨_, hl, rfl⟩ : (i, zcv E (0, x)) ∈ L.map fun q => (q.1, zcv E q.2))
  have hz := zst1_map E i (0, zw (x + n)) L
  exact lv_iinc (x := Int32.ofInt x) (v := Int32.ofInt (zw (x + n))) g.hx g.hb hd g.lv hq (by rw [zI_w, Int32.ofInt_add]) hn hz (fun ls' hl' => k.2 E p l e R s m args below meth c H locs cells slots n0 s0 Q ls' (g.loc g.cnS hl' (zst1_cn (zi_w _) g.cnL)) f)
theorem k_iadd {M : zM} {pc : Nat} {L : List (Nat × zV)} {st : List zV} {h : zH} {r : Option zV × zH} {x y : Int} (hd : decode M.2.1 pc = .ok (.iadd, 1)) (k : zK M (pc + 1) L ((0, zw (x + y)) :: st) h r) : zK M pc L ((0, y) :: (0, x) :: st) h r :=
  ⟨k.1, fun E p l e R s m args below meth c H locs cells slots n0 s0 Q ls g f => lv_iadd (x := Int32.ofInt x) (y := Int32.ofInt y) g.hx g.hb hd (zgo k g f (g.cnS.tail.tail.cons (zi_w _)) (by rw [List.map_cons, zvI, zI_w, Int32.ofInt_add]))⟩
theorem k_isub {M : zM} {pc : Nat} {L : List (Nat × zV)} {st : List zV} {h : zH} {r : Option zV × zH} {x y : Int} (hd : decode M.2.1 pc = .ok (.isub, 1)) (k : zK M (pc + 1) L ((0, zw (x - y)) :: st) h r) : zK M pc L ((0, y) :: (0, x) :: st) h r :=
  ⟨k.1, fun E p l e R s m args below meth c H locs cells slots n0 s0 Q ls g f => lv_isub (x := Int32.ofInt x) (y := Int32.ofInt y) g.hx g.hb hd (zgo k g f (g.cnS.tail.tail.cons (zi_w _)) (by rw [List.map_cons, zvI, zI_w, Int32.ofInt_sub]))⟩
theorem k_imul {M : zM} {pc : Nat} {L : List (Nat × zV)} {st : List zV} {h : zH} {r : Option zV × zH} {x y : Int} (hd : decode M.2.1 pc = .ok (.imul, 1)) (k : zK M (pc + 1) L ((0, zw (x * y)) :: st) h r) : zK M pc L ((0, y) :: (0, x) :: st) h r :=
  ⟨k.1, fun E p l e R s m args below meth c H locs cells slots n0 s0 Q ls g f => lv_imul (x := Int32.ofInt x) (y := Int32.ofInt y) g.hx g.hb hd (zgo k g f (g.cnS.tail.tail.cons (zi_w _)) (by rw [List.map_cons, zvI, zI_w, Int32.ofInt_mul]))⟩
theorem k_iand {M : zM} {pc : Nat} {L : List (Nat × zV)} {st : List zV} {h : zH} {r : Option zV × zH} {x y : Int} (hd : decode M.2.1 pc = .ok (.iand, 1)) (k : zK M (pc + 1) L ((0, z_and x y) :: st) h r) : zK M pc L ((0, y) :: (0, x) :: st) h r :=
  ⟨k.1, fun E p l e R s m args below meth c H locs cells slots n0 s0 Q ls g f => lv_iand (x := Int32.ofInt x) (y := Int32.ofInt y) g.hx g.hb hd (zgo k g f (g.cnS.tail.tail.cons (zi_to _)) (by rw [List.map_cons, zvI]; unfold z_and; rw [zI_of]))⟩
theorem k_ineg {M : zM} {pc : Nat} {L : List (Nat × zV)} {st : List zV} {h : zH} {r : Option zV × zH} {x : Int} (hd : decode M.2.1 pc = .ok (.ineg, 1)) (k : zK M (pc + 1) L ((0, zw (-x)) :: st) h r) : zK M pc L ((0, x) :: st) h r :=
  ⟨k.1, fun E p l e R s m args below meth c H locs cells slots n0 s0 Q ls g f => lv_ineg (x := Int32.ofInt x) g.hx g.hb hd (zgo k g f (g.cnS.tail.cons (zi_w _)) (by rw [List.map_cons, zvI, zI_w, Int32.ofInt_neg]))⟩
theorem k_i2l {M : zM} {pc : Nat} {L : List (Nat × zV)} {st : List zV} {h : zH} {r : Option zV × zH} {x : Int} (hd : decode M.2.1 pc = .ok (.i2l, 1)) (k : zK M (pc + 1) L ((1, x) :: st) h r) : zK M pc L ((0, x) :: st) h r :=
  ⟨k.1, fun E p l e R s m args below meth c H locs cells slots n0 s0 Q ls g f => lv_i2l (x := Int32.ofInt x) (v := Int64.ofInt x) g.hx g.hb hd (zi2l g.cnS.head) (zgo k g f (g.cnS.tail.cons (zi2l_cn g.cnS.head)) rfl)⟩
theorem k_l2i {M : zM} {pc : Nat} {L : List (Nat × zV)} {st : List zV} {h : zH} {r : Option zV × zH} {x : Int} (hd : decode M.2.1 pc = .ok (.l2i, 1)) (k : zK M (pc + 1) L ((0, zw x) :: st) h r) : zK M pc L ((1, x) :: st) h r :=
  ⟨k.1, fun E p l e R s m args below meth c H locs cells slots n0 s0 Q ls g f => lv_l2i (x := Int64.ofInt x) (v := Int32.ofInt (zw x)) g.hx g.hb hd (zl2i x) (zgo k g f (g.cnS.tail.cons (zi_w _)) rfl)⟩
theorem k_i2c {M : zM} {pc : Nat} {L : List (Nat × zV)} {st : List zV} {h : zH} {r : Option zV × zH} {x : Int} (hd : decode M.2.1 pc = .ok (.i2c, 1)) (k : zK M (pc + 1) L ((0, x % 65536) :: st) h r) : zK M pc L ((0, x) :: st) h r :=
  ⟨k.1, fun E p l e R s m args below meth c H locs cells slots n0 s0 Q ls g f => lv_i2c (x := Int32.ofInt x) (v := Int32.ofInt (x % 65536)) g.hx g.hb hd (zi2c x) (zgo k g f (g.cnS.tail.cons (zi2c_cn x)) rfl)⟩
theorem k_land {M : zM} {pc : Nat} {L : List (Nat × zV)} {st : List zV} {h : zH} {r : Option zV × zH} {x y : Int} (hd : decode M.2.1 pc = .ok (.land, 1)) (k : zK M (pc + 1) L ((1, z_land x y) :: st) h r) : zK M pc L ((1, y) :: (1, x) :: st) h r :=
  ⟨k.1, fun E p l e R s m args below meth c H locs cells slots n0 s0 Q ls g f => lv_land (x := Int64.ofInt x) (y := Int64.ofInt y) g.hx g.hb hd (zgo k g f (g.cnS.tail.tail.cons (zi_toL _)) (by rw [List.map_cons, zvL]; unfold z_land; rw [zL_of]))⟩
theorem k_lor {M : zM} {pc : Nat} {L : List (Nat × zV)} {st : List zV} {h : zH} {r : Option zV × zH} {x y : Int} (hd : decode M.2.1 pc = .ok (.lor, 1)) (k : zK M (pc + 1) L ((1, z_lor x y) :: st) h r) : zK M pc L ((1, y) :: (1, x) :: st) h r :=
  ⟨k.1, fun E p l e R s m args below meth c H locs cells slots n0 s0 Q ls g f => lv_lor (x := Int64.ofInt x) (y := Int64.ofInt y) g.hx g.hb hd (zgo k g f (g.cnS.tail.tail.cons (zi_toL _)) (by rw [List.map_cons, zvL]; unfold z_lor; rw [zL_of]))⟩
theorem k_lxor {M : zM} {pc : Nat} {L : List (Nat × zV)} {st : List zV} {h : zH} {r : Option zV × zH} {x y : Int} (hd : decode M.2.1 pc = .ok (.lxor, 1)) (k : zK M (pc + 1) L ((1, z_lxor x y) :: st) h r) : zK M pc L ((1, y) :: (1, x) :: st) h r :=
  ⟨k.1, fun E p l e R s m args below meth c H locs cells slots n0 s0 Q ls g f => lv_lxor (x := Int64.ofInt x) (y := Int64.ofInt y) g.hx g.hb hd (zgo k g f (g.cnS.tail.tail.cons (zi_toL _)) (by rw [List.map_cons, zvL]; unfold z_lxor; rw [zL_of]))⟩
theorem k_lshl {M : zM} {pc : Nat} {L : List (Nat × zV)} {st : List zV} {h : zH} {r : Option zV × zH} {x y : Int} (hd : decode M.2.1 pc = .ok (.lshl, 1)) (k : zK M (pc + 1) L ((1, z_lshl x y) :: st) h r) : zK M pc L ((0, y) :: (1, x) :: st) h r :=
  ⟨k.1, fun E p l e R s m args below meth c H locs cells slots n0 s0 Q ls g f => lv_lshl (x := Int64.ofInt x) (y := Int32.ofInt y) g.hx g.hb hd rfl (zgo k g f (g.cnS.tail.tail.cons (zi_toL _)) (by rw [List.map_cons, zvL]; unfold z_lshl; rw [zL_of]))⟩
theorem k_lshr {M : zM} {pc : Nat} {L : List (Nat × zV)} {st : List zV} {h : zH} {r : Option zV × zH} {x y : Int} (hd : decode M.2.1 pc = .ok (.lshr, 1)) (k : zK M (pc + 1) L ((1, z_lshr x y) :: st) h r) : zK M pc L ((0, y) :: (1, x) :: st) h r :=
  ⟨k.1, fun E p l e R s m args below meth c H locs cells slots n0 s0 Q ls g f => lv_lshr (x := Int64.ofInt x) (y := Int32.ofInt y) g.hx g.hb hd rfl (zgo k g f (g.cnS.tail.tail.cons (zi_toL _)) (by rw [List.map_cons, zvL]; unfold z_lshr; rw [zL_of]))⟩
theorem k_lushr {M : zM} {pc : Nat} {L : List (Nat × zV)} {st : List zV} {h : zH} {r : Option zV × zH} {x y : Int} (hd : decode M.2.1 pc = .ok (.lushr, 1)) (k : zK M (pc + 1) L ((1, z_lushr x y) :: st) h r) : zK M pc L ((0, y) :: (1, x) :: st) h r :=
  ⟨k.1, fun E p l e R s m args below meth c H locs cells slots n0 s0 Q ls g f => lv_lushr (x := Int64.ofInt x) (y := Int32.ofInt y) g.hx g.hb hd rfl (zgo k g f (g.cnS.tail.tail.cons (zi_toL _)) (by rw [List.map_cons, zvL]; unfold z_lushr; rw [zL_of]))⟩
theorem k_dup {M : zM} {pc : Nat} {L : List (Nat × zV)} {st : List zV} {h : zH} {r : Option zV × zH} {v : zV} (hv : v.1 = 0 ∨ v.1 = 2) (hd : decode M.2.1 pc = .ok (.dup, 1)) (k : zK M (pc + 1) L (v :: v :: st) h r) : zK M pc L (v :: st) h r :=
  ⟨k.1, fun E p l e R s m args below meth c H locs cells slots n0 s0 Q ls g f => lv_dup g.hx g.hb hd (zcat1 E hv) (zgo k g f (g.cnS.cons g.cnS.head) rfl)⟩
theorem k_pop {M : zM} {pc : Nat} {L : List (Nat × zV)} {st : List zV} {h : zH} {r : Option zV × zH} {v : zV} (hv : v.1 = 0 ∨ v.1 = 2) (hd : decode M.2.1 pc = .ok (.pop, 1)) (k : zK M (pc + 1) L (st) h r) : zK M pc L (v :: st) h r :=
  ⟨k.1, fun E p l e R s m args below meth c H locs cells slots n0 s0 Q ls g f => lv_pop g.hx g.hb hd (zcat1 E hv) (zgo k g f g.cnS.tail rfl)⟩
theorem k_dup2 {M : zM} {pc : Nat} {L : List (Nat × zV)} {st : List zV} {h : zH} {r : Option zV × zH} {v w : zV} (hv : v.1 = 0 ∨ v.1 = 2) (hw : w.1 = 0 ∨ w.1 = 2) (hd : decode M.2.1 pc = .ok (.dup2, 1)) (k : zK M (pc + 1) L (v :: w :: v :: w :: st) h r) : zK M pc L (v :: w :: st) h r :=
  ⟨k.1, fun E p l e R s m args below meth c H locs cells slots n0 s0 Q ls g f => lv_dup2_11 g.hx g.hb hd (zcat1 E hv) (zcat1 E hw) (zgo k g f ((g.cnS.cons g.cnS.tail.head).cons g.cnS.head) rfl)⟩
theorem zb0 {x : Int} (hx : zi32 x) : Int32.ofInt x = 0 ↔ x = 0 := by rw [← zI_0]; exact zI_eq hx (by unfold zi32; omega)
theorem zbl0 {x : Int} (hx : zi32 x) : Int32.ofInt x < 0 ↔ x < 0 := by rw [← zI_0]; exact zI_lt hx (by unfold zi32; omega)
theorem zbg0 {x : Int} (hx : zi32 x) : 0 < Int32.ofInt x ↔ 0 < x := by rw [← zI_0]; exact zI_lt (by unfold zi32; omega) hx
theorem zbL0 {x : Int} (hx : zi32 x) : Int32.ofInt x ≤ 0 ↔ x ≤ 0 := by rw [← zI_0]; exact zI_le hx (by unfold zi32; omega)
theorem zbG0 {x : Int} (hx : zi32 x) : 0 ≤ Int32.ofInt x ↔ 0 ≤ x := by rw [← zI_0]; exact zI_le (by unfold zi32; omega) hx
theorem k_if_eq_t {M : zM} {pc : Nat} {L : List (Nat × zV)} {st : List zV} {h : zH} {r : Option zV × zH} {x : Int} {off : Int} {tgt : Nat} (hc : x = 0) (hd : decode M.2.1 pc = .ok (.ifCond .eq off, 3)) (ht : (pc : Int) + off = (tgt : Int)) (k : zK M tgt L st h r) : zK M pc L ((0, x) :: st) h r :=
  ⟨k.1, fun E p l e R s m args below meth c H locs cells slots n0 s0 Q ls g f => lv_if_eq (x := Int32.ofInt x) g.hx g.hb hd ht (fun _ => zgo k g f g.cnS.tail rfl) (fun hn => absurd ((zb0 g.cnS.head).mpr hc) hn)⟩
theorem k_if_eq_f {M : zM} {pc : Nat} {L : List (Nat × zV)} {st : List zV} {h : zH} {r : Option zV × zH} {x : Int} {off : Int} {tgt : Nat} (hc : ¬ (x = 0)) (hd : decode M.2.1 pc = .ok (.ifCond .eq off, 3)) (ht : (pc : Int) + off = (tgt : Int)) (k : zK M (pc + 3) L st h r) : zK M pc L ((0, x) :: st) h r :=
  ⟨k.1, fun E p l e R s m args below meth c H locs cells slots n0 s0 Q ls g f => lv_if_eq (x := Int32.ofInt x) (tgt := tgt) g.hx g.hb hd ht (fun hp => absurd ((zb0 g.cnS.head).mp hp) hc) (fun _ => zgo k g f g.cnS.tail rfl)⟩
theorem k_ic_eq_t {M : zM} {pc : Nat} {L : List (Nat × zV)} {st : List zV} {h : zH} {r : Option zV × zH} {x y : Int} {off : Int} {tgt : Nat} (hc : x = y) (hd : decode M.2.1 pc = .ok (.if_icmp .eq off, 3)) (ht : (pc : Int) + off = (tgt : Int)) (k : zK M tgt L st h r) : zK M pc L ((0, y) :: (0, x) :: st) h r :=
  ⟨k.1, fun E p l e R s m args below meth c H locs cells slots n0 s0 Q ls g f => lv_icmp_eq (x := Int32.ofInt x) (y := Int32.ofInt y) g.hx g.hb hd ht (fun _ => zgo k g f g.cnS.tail.tail rfl) (fun hn => absurd ((zI_eq g.cnS.tail.head g.cnS.head).mpr hc) hn)⟩
theorem k_ic_eq_f {M : zM} {pc : Nat} {L : List (Nat × zV)} {st : List zV} {h : zH} {r : Option zV × zH} {x y : Int} {off : Int} {tgt : Nat} (hc : ¬ (x = y)) (hd : decode M.2.1 pc = .ok (.if_icmp .eq off, 3)) (ht : (pc : Int) + off = (tgt : Int)) (k : zK M (pc + 3) L st h r) : zK M pc L ((0, y) :: (0, x) :: st) h r :=
  ⟨k.1, fun E p l e R s m args below meth c H locs cells slots n0 s0 Q ls g f => lv_icmp_eq (x := Int32.ofInt x) (y := Int32.ofInt y) (tgt := tgt) g.hx g.hb hd ht (fun hp => absurd ((zI_eq g.cnS.tail.head g.cnS.head).mp hp) hc) (fun _ => zgo k g f g.cnS.tail.tail rfl)⟩
theorem k_if_ne_t {M : zM} {pc : Nat} {L : List (Nat × zV)} {st : List zV} {h : zH} {r : Option zV × zH} {x : Int} {off : Int} {tgt : Nat} (hc : ¬ x = 0) (hd : decode M.2.1 pc = .ok (.ifCond .ne off, 3)) (ht : (pc : Int) + off = (tgt : Int)) (k : zK M tgt L st h r) : zK M pc L ((0, x) :: st) h r :=
  ⟨k.1, fun E p l e R s m args below meth c H locs cells slots n0 s0 Q ls g f => lv_if_ne (x := Int32.ofInt x) g.hx g.hb hd ht (fun _ => zgo k g f g.cnS.tail rfl) (fun hn => absurd hn ((not_congr (zb0 g.cnS.head)).mpr hc))⟩
theorem k_if_ne_f {M : zM} {pc : Nat} {L : List (Nat × zV)} {st : List zV} {h : zH} {r : Option zV × zH} {x : Int} {off : Int} {tgt : Nat} (hc : x = 0) (hd : decode M.2.1 pc = .ok (.ifCond .ne off, 3)) (ht : (pc : Int) + off = (tgt : Int)) (k : zK M (pc + 3) L st h r) : zK M pc L ((0, x) :: st) h r :=
  ⟨k.1, fun E p l e R s m args below meth c H locs cells slots n0 s0 Q ls g f => lv_if_ne (x := Int32.ofInt x) (tgt := tgt) g.hx g.hb hd ht (fun hp => absurd hc ((not_congr (zb0 g.cnS.head)).mp hp)) (fun _ => zgo k g f g.cnS.tail rfl)⟩
theorem k_ic_ne_t {M : zM} {pc : Nat} {L : List (Nat × zV)} {st : List zV} {h : zH} {r : Option zV × zH} {x y : Int} {off : Int} {tgt : Nat} (hc : ¬ x = y) (hd : decode M.2.1 pc = .ok (.if_icmp .ne off, 3)) (ht : (pc : Int) + off = (tgt : Int)) (k : zK M tgt L st h r) : zK M pc L ((0, y) :: (0, x) :: st) h r :=
  ⟨k.1, fun E p l e R s m args below meth c H locs cells slots n0 s0 Q ls g f => lv_icmp_ne (x := Int32.ofInt x) (y := Int32.ofInt y) g.hx g.hb hd ht (fun _ => zgo k g f g.cnS.tail.tail rfl) (fun hn => absurd hn ((not_congr (zI_eq g.cnS.tail.head g.cnS.head)).mpr hc))⟩
theorem k_ic_ne_f {M : zM} {pc : Nat} {L : List (Nat × zV)} {st : List zV} {h : zH} {r : Option zV × zH} {x y : Int} {off : Int} {tgt : Nat} (hc : x = y) (hd : decode M.2.1 pc = .ok (.if_icmp .ne off, 3)) (ht : (pc : Int) + off = (tgt : Int)) (k : zK M (pc + 3) L st h r) : zK M pc L ((0, y) :: (0, x) :: st) h r :=
  ⟨k.1, fun E p l e R s m args below meth c H locs cells slots n0 s0 Q ls g f => lv_icmp_ne (x := Int32.ofInt x) (y := Int32.ofInt y) (tgt := tgt) g.hx g.hb hd ht (fun hp => absurd hc ((not_congr (zI_eq g.cnS.tail.head g.cnS.head)).mp hp)) (fun _ => zgo k g f g.cnS.tail.tail rfl)⟩
theorem k_if_lt_t {M : zM} {pc : Nat} {L : List (Nat × zV)} {st : List zV} {h : zH} {r : Option zV × zH} {x : Int} {off : Int} {tgt : Nat} (hc : x < 0) (hd : decode M.2.1 pc = .ok (.ifCond .lt off, 3)) (ht : (pc : Int) + off = (tgt : Int)) (k : zK M tgt L st h r) : zK M pc L ((0, x) :: st) h r :=
  ⟨k.1, fun E p l e R s m args below meth c H locs cells slots n0 s0 Q ls g f => lv_if_lt (x := Int32.ofInt x) g.hx g.hb hd ht (fun _ => zgo k g f g.cnS.tail rfl) (fun hn => absurd ((zbl0 g.cnS.head).mpr hc) hn)⟩
theorem k_if_lt_f {M : zM} {pc : Nat} {L : List (Nat × zV)} {st : List zV} {h : zH} {r : Option zV × zH} {x : Int} {off : Int} {tgt : Nat} (hc : ¬ (x < 0)) (hd : decode M.2.1 pc = .ok (.ifCond .lt off, 3)) (ht : (pc : Int) + off = (tgt : Int)) (k : zK M (pc + 3) L st h r) : zK M pc L ((0, x) :: st) h r :=
  ⟨k.1, fun E p l e R s m args below meth c H locs cells slots n0 s0 Q ls g f => lv_if_lt (x := Int32.ofInt x) (tgt := tgt) g.hx g.hb hd ht (fun hp => absurd ((zbl0 g.cnS.head).mp hp) hc) (fun _ => zgo k g f g.cnS.tail rfl)⟩
theorem k_ic_lt_t {M : zM} {pc : Nat} {L : List (Nat × zV)} {st : List zV} {h : zH} {r : Option zV × zH} {x y : Int} {off : Int} {tgt : Nat} (hc : x < y) (hd : decode M.2.1 pc = .ok (.if_icmp .lt off, 3)) (ht : (pc : Int) + off = (tgt : Int)) (k : zK M tgt L st h r) : zK M pc L ((0, y) :: (0, x) :: st) h r :=
  ⟨k.1, fun E p l e R s m args below meth c H locs cells slots n0 s0 Q ls g f => lv_icmp_lt (x := Int32.ofInt x) (y := Int32.ofInt y) g.hx g.hb hd ht (fun _ => zgo k g f g.cnS.tail.tail rfl) (fun hn => absurd ((zI_lt g.cnS.tail.head g.cnS.head).mpr hc) hn)⟩
theorem k_ic_lt_f {M : zM} {pc : Nat} {L : List (Nat × zV)} {st : List zV} {h : zH} {r : Option zV × zH} {x y : Int} {off : Int} {tgt : Nat} (hc : ¬ (x < y)) (hd : decode M.2.1 pc = .ok (.if_icmp .lt off, 3)) (ht : (pc : Int) + off = (tgt : Int)) (k : zK M (pc + 3) L st h r) : zK M pc L ((0, y) :: (0, x) :: st) h r :=
  ⟨k.1, fun E p l e R s m args below meth c H locs cells slots n0 s0 Q ls g f => lv_icmp_lt (x := Int32.ofInt x) (y := Int32.ofInt y) (tgt := tgt) g.hx g.hb hd ht (fun hp => absurd ((zI_lt g.cnS.tail.head g.cnS.head).mp hp) hc) (fun _ => zgo k g f g.cnS.tail.tail rfl)⟩
theorem k_if_ge_t {M : zM} {pc : Nat} {L : List (Nat × zV)} {st : List zV} {h : zH} {r : Option zV × zH} {x : Int} {off : Int} {tgt : Nat} (hc : 0 ≤ x) (hd : decode M.2.1 pc = .ok (.ifCond .ge off, 3)) (ht : (pc : Int) + off = (tgt : Int)) (k : zK M tgt L st h r) : zK M pc L ((0, x) :: st) h r :=
  ⟨k.1, fun E p l e R s m args below meth c H locs cells slots n0 s0 Q ls g f => lv_if_ge (x := Int32.ofInt x) g.hx g.hb hd ht (fun _ => zgo k g f g.cnS.tail rfl) (fun hn => absurd ((zbG0 g.cnS.head).mpr hc) hn)⟩
theorem k_if_ge_f {M : zM} {pc : Nat} {L : List (Nat × zV)} {st : List zV} {h : zH} {r : Option zV × zH} {x : Int} {off : Int} {tgt : Nat} (hc : ¬ (0 ≤ x)) (hd : decode M.2.1 pc = .ok (.ifCond .ge off, 3)) (ht : (pc : Int) + off = (tgt : Int)) (k : zK M (pc + 3) L st h r) : zK M pc L ((0, x) :: st) h r :=
  ⟨k.1, fun E p l e R s m args below meth c H locs cells slots n0 s0 Q ls g f => lv_if_ge (x := Int32.ofInt x) (tgt := tgt) g.hx g.hb hd ht (fun hp => absurd ((zbG0 g.cnS.head).mp hp) hc) (fun _ => zgo k g f g.cnS.tail rfl)⟩
theorem k_ic_ge_t {M : zM} {pc : Nat} {L : List (Nat × zV)} {st : List zV} {h : zH} {r : Option zV × zH} {x y : Int} {off : Int} {tgt : Nat} (hc : y ≤ x) (hd : decode M.2.1 pc = .ok (.if_icmp .ge off, 3)) (ht : (pc : Int) + off = (tgt : Int)) (k : zK M tgt L st h r) : zK M pc L ((0, y) :: (0, x) :: st) h r :=
  ⟨k.1, fun E p l e R s m args below meth c H locs cells slots n0 s0 Q ls g f => lv_icmp_ge (x := Int32.ofInt x) (y := Int32.ofInt y) g.hx g.hb hd ht (fun _ => zgo k g f g.cnS.tail.tail rfl) (fun hn => absurd ((zI_le g.cnS.head g.cnS.tail.head).mpr hc) hn)⟩
theorem k_ic_ge_f {M : zM} {pc : Nat} {L : List (Nat × zV)} {st : List zV} {h : zH} {r : Option zV × zH} {x y : Int} {off : Int} {tgt : Nat} (hc : ¬ (y ≤ x)) (hd : decode M.2.1 pc = .ok (.if_icmp .ge off, 3)) (ht : (pc : Int) + off = (tgt : Int)) (k : zK M (pc + 3) L st h r) : zK M pc L ((0, y) :: (0, x) :: st) h r :=
  ⟨k.1, fun E p l e R s m args below meth c H locs cells slots n0 s0 Q ls g f => lv_icmp_ge (x := Int32.ofInt x) (y := Int32.ofInt y) (tgt := tgt) g.hx g.hb hd ht (fun hp => absurd ((zI_le g.cnS.head g.cnS.tail.head).mp hp) hc) (fun _ => zgo k g f g.cnS.tail.tail rfl)⟩
theorem k_if_gt_t {M : zM} {pc : Nat} {L : List (Nat × zV)} {st : List zV} {h : zH} {r : Option zV × zH} {x : Int} {off : Int} {tgt : Nat} (hc : 0 < x) (hd : decode M.2.1 pc = .ok (.ifCond .gt off, 3)) (ht : (pc : Int) + off = (tgt : Int)) (k : zK M tgt L st h r) : zK M pc L ((0, x) :: st) h r :=
  ⟨k.1, fun E p l e R s m args below meth c H locs cells slots n0 s0 Q ls g f => lv_if_gt (x := Int32.ofInt x) g.hx g.hb hd ht (fun _ => zgo k g f g.cnS.tail rfl) (fun hn => absurd ((zbg0 g.cnS.head).mpr hc) hn)⟩
theorem k_if_gt_f {M : zM} {pc : Nat} {L : List (Nat × zV)} {st : List zV} {h : zH} {r : Option zV × zH} {x : Int} {off : Int} {tgt : Nat} (hc : ¬ (0 < x)) (hd : decode M.2.1 pc = .ok (.ifCond .gt off, 3)) (ht : (pc : Int) + off = (tgt : Int)) (k : zK M (pc + 3) L st h r) : zK M pc L ((0, x) :: st) h r :=
  ⟨k.1, fun E p l e R s m args below meth c H locs cells slots n0 s0 Q ls g f => lv_if_gt (x := Int32.ofInt x) (tgt := tgt) g.hx g.hb hd ht (fun hp => absurd ((zbg0 g.cnS.head).mp hp) hc) (fun _ => zgo k g f g.cnS.tail rfl)⟩
theorem k_ic_gt_t {M : zM} {pc : Nat} {L : List (Nat × zV)} {st : List zV} {h : zH} {r : Option zV × zH} {x y : Int} {off : Int} {tgt : Nat} (hc : y < x) (hd : decode M.2.1 pc = .ok (.if_icmp .gt off, 3)) (ht : (pc : Int) + off = (tgt : Int)) (k : zK M tgt L st h r) : zK M pc L ((0, y) :: (0, x) :: st) h r :=
  ⟨k.1, fun E p l e R s m args below meth c H locs cells slots n0 s0 Q ls g f => lv_icmp_gt (x := Int32.ofInt x) (y := Int32.ofInt y) g.hx g.hb hd ht (fun _ => zgo k g f g.cnS.tail.tail rfl) (fun hn => absurd ((zI_lt g.cnS.head g.cnS.tail.head).mpr hc) hn)⟩
theorem k_ic_gt_f {M : zM} {pc : Nat} {L : List (Nat × zV)} {st : List zV} {h : zH} {r : Option zV × zH} {x y : Int} {off : Int} {tgt : Nat} (hc : ¬ (y < x)) (hd : decode M.2.1 pc = .ok (.if_icmp .gt off, 3)) (ht : (pc : Int) + off = (tgt : Int)) (k : zK M (pc + 3) L st h r) : zK M pc L ((0, y) :: (0, x) :: st) h r :=
  ⟨k.1, fun E p l e R s m args below meth c H locs cells slots n0 s0 Q ls g f => lv_icmp_gt (x := Int32.ofInt x) (y := Int32.ofInt y) (tgt := tgt) g.hx g.hb hd ht (fun hp => absurd ((zI_lt g.cnS.head g.cnS.tail.head).mp hp) hc) (fun _ => zgo k g f g.cnS.tail.tail rfl)⟩
theorem k_if_le_t {M : zM} {pc : Nat} {L : List (Nat × zV)} {st : List zV} {h : zH} {r : Option zV × zH} {x : Int} {off : Int} {tgt : Nat} (hc : x ≤ 0) (hd : decode M.2.1 pc = .ok (.ifCond .le off, 3)) (ht : (pc : Int) + off = (tgt : Int)) (k : zK M tgt L st h r) : zK M pc L ((0, x) :: st) h r :=
  ⟨k.1, fun E p l e R s m args below meth c H locs cells slots n0 s0 Q ls g f => lv_if_le (x := Int32.ofInt x) g.hx g.hb hd ht (fun _ => zgo k g f g.cnS.tail rfl) (fun hn => absurd ((zbL0 g.cnS.head).mpr hc) hn)⟩
theorem k_if_le_f {M : zM} {pc : Nat} {L : List (Nat × zV)} {st : List zV} {h : zH} {r : Option zV × zH} {x : Int} {off : Int} {tgt : Nat} (hc : ¬ (x ≤ 0)) (hd : decode M.2.1 pc = .ok (.ifCond .le off, 3)) (ht : (pc : Int) + off = (tgt : Int)) (k : zK M (pc + 3) L st h r) : zK M pc L ((0, x) :: st) h r :=
  ⟨k.1, fun E p l e R s m args below meth c H locs cells slots n0 s0 Q ls g f => lv_if_le (x := Int32.ofInt x) (tgt := tgt) g.hx g.hb hd ht (fun hp => absurd ((zbL0 g.cnS.head).mp hp) hc) (fun _ => zgo k g f g.cnS.tail rfl)⟩
theorem k_ic_le_t {M : zM} {pc : Nat} {L : List (Nat × zV)} {st : List zV} {h : zH} {r : Option zV × zH} {x y : Int} {off : Int} {tgt : Nat} (hc : x ≤ y) (hd : decode M.2.1 pc = .ok (.if_icmp .le off, 3)) (ht : (pc : Int) + off = (tgt : Int)) (k : zK M tgt L st h r) : zK M pc L ((0, y) :: (0, x) :: st) h r :=
  ⟨k.1, fun E p l e R s m args below meth c H locs cells slots n0 s0 Q ls g f => lv_icmp_le (x := Int32.ofInt x) (y := Int32.ofInt y) g.hx g.hb hd ht (fun _ => zgo k g f g.cnS.tail.tail rfl) (fun hn => absurd ((zI_le g.cnS.tail.head g.cnS.head).mpr hc) hn)⟩
theorem k_ic_le_f {M : zM} {pc : Nat} {L : List (Nat × zV)} {st : List zV} {h : zH} {r : Option zV × zH} {x y : Int} {off : Int} {tgt : Nat} (hc : ¬ (x ≤ y)) (hd : decode M.2.1 pc = .ok (.if_icmp .le off, 3)) (ht : (pc : Int) + off = (tgt : Int)) (k : zK M (pc + 3) L st h r) : zK M pc L ((0, y) :: (0, x) :: st) h r :=
  ⟨k.1, fun E p l e R s m args below meth c H locs cells slots n0 s0 Q ls g f => lv_icmp_le (x := Int32.ofInt x) (y := Int32.ofInt y) (tgt := tgt) g.hx g.hb hd ht (fun hp => absurd ((zI_le g.cnS.tail.head g.cnS.head).mp hp) hc) (fun _ => zgo k g f g.cnS.tail.tail rfl)⟩
theorem k_goto {M : zM} {pc : Nat} {L : List (Nat × zV)} {st : List zV} {h : zH} {r : Option zV × zH} {off : Int} {tgt : Nat} (hd : decode M.2.1 pc = .ok (.goto off, 3)) (ht : (pc : Int) + off = (tgt : Int)) (k : zK M tgt L st h r) : zK M pc L st h r :=
  ⟨k.1, fun E p l e R s m args below meth c H locs cells slots n0 s0 Q ls g f => lv_goto g.hx g.hb hd ht (zgo k g f g.cnS rfl)⟩
end
section
/-! Rows: fields and arrays. -/
/-- a class of the world, by its number -/
def zCk (k : Nat) (C : String) (T : u_T) (N : Nat) : Prop := k < 20 ∧ classes[k]? = some (C, T, N) ∧ (∀ w ∈ u_ws C T N, w ∈ zGW) ∧ (∃ ty0 : Nat → FieldType, ∀ j, j < N → parseFieldDescriptor (T j).2.2.1 = some (ty0 j)) ∧ (∀ a, a < N → ∀ b, b < N → a ≠ b → (T a).2.1 ≠ (T b).2.1)
/-- a field that an instruction of the class own names by i -/
def zFd (own : String) (i k j : Nat) (ty : FieldType) (fin : Bool) : Prop := ∃ C T N, zCk k C T N ∧ j < N ∧ parseFieldDescriptor (T j).2.2.1 = some ty ∧ (T j).2.2.2 = fin ∧ (T j).1 = C ∧
  (Cond.fieldLink own i (T j).1 (T j).2.1 (T j).2.2.1 ∈ zGW ∨ ∃ host, Cond.fieldLinkNest own i (T j).1 (T j).2.1 (T j).2.2.1 host ∈ zNW)
def zfs (E : zE) (h : zH) (c k N : Nat) : List Value := (List.range N).map fun j => zfv E k j (h.2.1 c j) (h.2.2 c j)
theorem zfs_at (E : zE) (h : zH) (c k N : Nat) {j : Nat} (hj : j < N) : (zfs E h c k N)[j]? = some (zfv E k j (h.2.1 c j) (h.2.2 c j)) := by
  unfold zfs
  rw [List.getElem?_map, List.getElem?_range hj]
  rfl
theorem zRp.ob {E : zE} {h : zH} {H : Heap} (hR : zRp E h H) {c k n : Nat} (hc : h.1[c]? = some (k, n)) {C : String} {T : u_T} {N : Nat} (hk : k < 20) (hcl : classes[k]? = some (C, T, N)) : va_P E.1 classes [(E.2.2.1 + c, .inr (k, zfs E h c k N))] H := by
  intro q x hx
  have hz : q < 1 := (List.getElem?_eq_some_iff.mp hx).1
  rw [show q = 0 by omega] at hx
  cases hx
  have h1 := hR.2.2.1 c k n (hR.c0 hc (by omega)) hc
  unfold zat at h1
  rw [if_pos hk] at h1
  obtain ⟨r, g1, -, g2⟩ := h1
  have hr : r = (C, T, N) := Option.some.inj (g1.symm.trans hcl)
  subst hr
  refine ⟨_, hcl, g2.to fun j hj => ?_⟩
  show _ = (zfs E h c k N).getD j .null
  rw [List.getD_eq_getElem?_getD, zfs_at E h c k N hj]
  rfl
theorem zRp.arr {E : zE} {h : zH} {H : Heap} (hR : zRp E h H) {c k n : Nat} (hc : h.1[c]? = some (k, n)) (hk : ¬ k < 20) (hk9 : k ≠ 99) : H[E.2.2.1 + c]? = some (arrV (E.2.1 (k - 20)) n (fun j => zav E k (h.2.1 c j) (h.2.2 c j))) := by
  have h1 := hR.2.2.1 c k n (hR.c0 hc hk9) hc
  unfold zat at h1
  rw [if_neg hk] at h1
  exact h1
theorem zat.same {E : zE} {h h' : zH} {c k n : Nat} {H H' : Heap} (hz : zat E h c k n H) (h1 : ∀ j, h'.2.1 c j = h.2.1 c j) (h2 : ∀ j, h'.2.2 c j = h.2.2 c j) (h3 : H'[E.2.2.1 + c]? = H[E.2.2.1 + c]?) : zat E h' c k n H' := by
  unfold zat at hz ⊢
  split
  · rename_i hk
    rw [if_pos hk] at hz
    obtain ⟨r, g1, g2, g3⟩ := hz
    exact ⟨r, g1, g2, (g3.kept h3).to fun j _ => by rw [h1, h2]⟩
  · rename_i hk
    rw [if_neg hk] at hz
    rw [h3, hz]
    simp only [h1, h2]
theorem zRp.put {E : zE} {h : zH} {H H' : Heap} (hR : zRp E h H) {c k n : Nat} (hc : h.1[c]? = some (k, n)) (hk9 : k ≠ 99) {ρ : Nat → Nat → Nat} {μ : Nat → Nat → Int} (h1 : ∀ a b, a ≠ c → ρ a b = h.2.1 a b) (h2 : ∀ a b, a ≠ c → μ a b = h.2.2 a b)
    (hat : zat E (h.1, ρ, μ) c k n H') (hok : ∀ j, zok (ztp k j) (μ c j)) (z : H'.size = H.size) (oq : ∀ q : Nat, q ≠ E.2.2.1 + c → H'[q]? = H[q]?) : zRp E (h.1, ρ, μ) H' := by
  have hc0 := hR.c0 hc hk9
  obtain ⟨r1, r2, r3, r4, r5⟩ := hR
  have r6 := r5.2.1
  refine ⟨by rw [z, r1], r2, fun c' k' n' g0 g1 => ?_, fun c' k' n' j g1 => ?_, ?_⟩
  · by_cases he : c' = c
    · subst he
      cases hc.symm.trans g1
      exact hat
    · exact (r3 c' k' n' g0 g1).same (fun j => h1 c' j he) (fun j => h2 c' j he) (oq _ (by omega))
  · by_cases he : c' = c
    · subst he
      cases hc.symm.trans g1
      exact hok j
    · show zok (ztp k' j) (μ c' j)
      rw [h2 c' j he]
      exact r4 c' k' n' j g1
  · exact ⟨by rw [oq _ (by omega)]; exact r5.1, r6, fun j hj => by rw [r5.2.2 j hj]; exact congrArg Int32.ofInt (h2 0 j (by omega)).symm⟩
theorem zSf.put {E : zE} {H0 H H' : Heap} {locs : List Loc} (hS : zSf E H0 H locs) {c i : Nat} (hc : c ≠ 0) (z : H'.size = H.size) (oq : ∀ q : Nat, q ≠ E.2.2.1 + c → H'[q]? = H[q]?) : zSf E H0 H' (locs ++ [⟨E.2.2.1 + c, i⟩]) := by
  obtain ⟨s1, s2, s3⟩ := hS
  refine ⟨fun q hq => by rw [oq q (by omega)]; exact s1 q hq, fun x hx => ?_, by rw [z]; exact s3⟩
  rcases List.mem_append.mp hx with hx | hx
  · exact s2 x hx
  · rw [List.mem_singleton.mp hx]
    show E.2.2.1 < E.2.2.1 + c
    omega
theorem z_gI_of {h : zH} {k c j : Nat} {x : Int} (e : z_gI h k c j = some x) : ∃ n, h.1[c]? = some (k, n) ∧ x = h.2.2 c j := by
  unfold z_gI at e
  split at e
  · rename_i q hq
    split at e
    · rename_i hk
      obtain ⟨a, b⟩ := q
      cases hk
      exact ⟨b, hq, (Option.some.inj e).symm⟩
    · cases e
  · cases e
theorem z_gR_of {h : zH} {k c j : Nat} {x : Nat} (e : z_gR h k c j = some x) : ∃ n, h.1[c]? = some (k, n) ∧ x ≠ 0 ∧ x = h.2.1 c j := by
  unfold z_gR at e
  split at e
  · rename_i q hq
    split at e
    · rename_i hk
      obtain ⟨a, b⟩ := q
      obtain ⟨rfl, hk⟩ := hk
      cases e
      exact ⟨b, hq, hk, rfl⟩
    · cases e
  · cases e
theorem z_pI_of {h h' : zH} {k c j : Nat} {x : Int} (e : z_pI h k c j x = some h') : ∃ n, h.1[c]? = some (k, n) ∧ h' = (h.1, h.2.1, z_up h.2.2 c j x) := by
  unfold z_pI at e
  split at e
  · rename_i q hq
    split at e
    · rename_i hk
      obtain ⟨a, b⟩ := q
      cases hk
      exact ⟨b, hq, (Option.some.inj e).symm⟩
    · cases e
  · cases e
theorem z_pR_of {h h' : zH} {k c j : Nat} {x : Nat} (e : z_pR h k c j x = some h') : ∃ n, h.1[c]? = some (k, n) ∧ h' = (h.1, z_up h.2.1 c j x, h.2.2) := by
  unfold z_pR at e
  split at e
  · rename_i q hq
    split at e
    · rename_i hk
      obtain ⟨a, b⟩ := q
      cases hk
      exact ⟨b, hq, (Option.some.inj e).symm⟩
    · cases e
  · cases e
theorem z_aI_of {h : zH} {k c : Nat} {i : Int} {x : Int} (e : z_aI h k c i = some x) : ∃ n, h.1[c]? = some (k, n) ∧ (0 ≤ i ∧ i < (n : Int)) ∧ x = h.2.2 c i.toNat := by
  unfold z_aI at e
  split at e
  · rename_i q hq
    split at e
    · rename_i hk
      obtain ⟨a, b⟩ := q
      obtain ⟨rfl, hk2⟩ := hk
      exact ⟨b, hq, hk2, (Option.some.inj e).symm⟩
    · cases e
  · cases e
theorem z_aR_of {h : zH} {k c : Nat} {i : Int} {x : Nat} (e : z_aR h k c i = some x) : ∃ n, h.1[c]? = some (k, n) ∧ (0 ≤ i ∧ i < (n : Int)) ∧ x ≠ 0 ∧ x = h.2.1 c i.toNat := by
  unfold z_aR at e
  split at e
  · rename_i q hq
    split at e
    · rename_i hk
      obtain ⟨a, b⟩ := q
      obtain ⟨rfl, hk2, hk3, hk4⟩ := hk
      cases e
      exact ⟨b, hq, ⟨hk2, hk3⟩, hk4, rfl⟩
    · cases e
  · cases e
theorem z_sI_of {h h' : zH} {k c : Nat} {i : Int} {x : Int} (e : z_sI h k c i x = some h') : ∃ n, h.1[c]? = some (k, n) ∧ (0 ≤ i ∧ i < (n : Int)) ∧ h' = (h.1, h.2.1, z_up h.2.2 c i.toNat x) := by
  unfold z_sI at e
  split at e
  · rename_i q hq
    split at e
    · rename_i hk
      obtain ⟨a, b⟩ := q
      obtain ⟨rfl, hk2⟩ := hk
      exact ⟨b, hq, hk2, (Option.some.inj e).symm⟩
    · cases e
  · cases e
theorem z_sR_of {h h' : zH} {k k2 c : Nat} {i : Int} {x : Nat} (e : z_sR h k k2 c i x = some h') : ∃ n n2, h.1[c]? = some (k, n) ∧ h.1[x]? = some (k2, n2) ∧ (0 ≤ i ∧ i < (n : Int)) ∧ h' = (h.1, z_up h.2.1 c i.toNat x, h.2.2) := by
  unfold z_sR at e
  split at e
  · rename_i q u hq hu
    split at e
    · rename_i hk
      obtain ⟨a, b⟩ := q
      obtain ⟨a2, b2⟩ := u
      obtain ⟨rfl, hk2, hk3, rfl⟩ := hk
      exact ⟨b, b2, hq, hu, ⟨hk2, hk3⟩, (Option.some.inj e).symm⟩
    · cases e
  · cases e
theorem z_len_of {h : zH} {k c : Nat} {x : Int} (e : z_len h k c = some x) : ∃ n : Nat, h.1[c]? = some (k, n) ∧ x = n := by
  unfold z_len at e
  split at e
  · rename_i q hq
    split at e
    · rename_i hk
      obtain ⟨a, b⟩ := q
      cases hk
      exact ⟨b, hq, (Option.some.inj e).symm⟩
    · cases e
  · cases e
theorem z_up_eq {α : Type} {f : Nat → Nat → α} {c j : Nat} {x : α} : z_up f c j x c j = x := if_pos ⟨rfl, rfl⟩
theorem z_up_ne {α : Type} {f : Nat → Nat → α} {c j a b : Nat} {x : α} (h : a ≠ c) : z_up f c j x a b = f a b := if_neg fun g => h g.1
theorem z_up_nj {α : Type} {f : Nat → Nat → α} {c j a b : Nat} {x : α} (h : b ≠ j) : z_up f c j x a b = f a b := if_neg fun g => h g.2
/-- an index of a row -/
theorem zin {i : Int} {n : Nat} (hi : zi32 i) (h : 0 ≤ i ∧ i < (n : Int)) : ¬ (Int32.ofInt i < 0 ∨ n ≤ (Int32.ofInt i).toNatClampNeg) := by
  rw [zbl0 hi, zI_cl hi]
  omega
theorem zhas {own : String} {i k j : Nat} {ty : FieldType} {fin : Bool} (hf : zFd own i k j ty fin) : k < 20 := by
  obtain ⟨_, _, _, h, -⟩ := hf
  exact h.1
end
section
theorem zgetf {M : zM} {E : zE} {p : Program} {l : Launch} {e : Env} {R : Room} {s : State} {m : MethodId} {args : Array Value} {below : List Frame} {meth : Method} {c0 : Code} {L : List (Nat × zV)} {st : List zV} {h : zH} {H : Heap} {locs : List Loc} {cells slots n0 s0 : Nat} {Q : State → Prop} {ls : Array Slot} {r : Option zV × zH} {pc i k j c n : Nat} {ty : FieldType} {fin : Bool} {rest : List Value}
    (g : zG M E p R s m args meth c0 L st h H locs cells slots n0 s0 ls r) (hf : zFd M.1.cls i k j ty fin) (hc : h.1[c]? = some (k, n)) (hd : decode M.2.1 pc = .ok (.getfield i, 3))
    (kk : W p l e R s m args below meth c0 H locs cells slots Q (F0 m (pc + 3) ls (zfv E k j (h.2.1 c j) (h.2.2 c j) :: rest))) : W p l e R s m args below meth c0 H locs cells slots Q (F0 m pc ls (.ref (E.2.2.1 + c) :: rest)) := by
  obtain ⟨C, T, N, ⟨hk, hcl, hin, -, -⟩, hj, -, -, -, hlink⟩ := hf
  have hP := g.rp.ob hc hk hcl
  rcases hlink with hlink | ⟨host, hlink⟩
  · exact va_get g.hx g.hb g.hts hin g.own g.hK hP 0 rfl hcl j hj (g.hts _ hlink) (fun _ h => h) (zfs_at E h c k N hj) hd kk
  · exact va_getN g.hx g.hb g.hts hin g.own g.hK hP 0 rfl hcl j hj (va_Nw.use rfl (g.hst.2.1 _ hlink)) (fun _ h => h) (zfs_at E h c k N hj) hd kk
theorem zputf {M : zM} {E : zE} {p : Program} {l : Launch} {e : Env} {R : Room} {s : State} {m : MethodId} {args : Array Value} {below : List Frame} {meth : Method} {c0 : Code} {L : List (Nat × zV)} {st : List zV} {h : zH} {H : Heap} {locs : List Loc} {cells slots n0 s0 : Nat} {Q : State → Prop} {ls : Array Slot} {r : Option zV × zH} {pc i k j c n : Nat} {ty : FieldType} {fin : Bool} {rest : List Value} {v : Value} {ρ : Nat → Nat → Nat} {μ : Nat → Nat → Int}
    (g : zG M E p R s m args meth c0 L st h H locs cells slots n0 s0 ls r) (hf : zFd M.1.cls i k j ty fin) (hfin : fin = true → M.1.name = "<init>" ∧ ∃ T N, classes[k]? = some (M.1.cls, T, N)) (hc : h.1[c]? = some (k, n)) (hd : decode M.2.1 pc = .ok (.putfield i, 3))
    (h1 : ∀ a b, (a ≠ c ∨ b ≠ j) → ρ a b = h.2.1 a b) (h2 : ∀ a b, (a ≠ c ∨ b ≠ j) → μ a b = h.2.2 a b) (hv : zfv E k j (ρ c j) (μ c j) = v) (hn : narrow ty v = v) (hfit : fits ty v = true) (hok : zok (ztp k j) (μ c j))
    (kk : ∀ (H' : Heap) (locs' : List Loc), zRp E (h.1, ρ, μ) H' → zSf E s.heap H' locs' → W p l e R s m args below meth c0 H' locs' cells slots Q (F0 m (pc + 3) ls rest)) : W p l e R s m args below meth c0 H locs cells slots Q (F0 m pc ls (v :: .ref (E.2.2.1 + c) :: rest)) := by
  obtain ⟨C, T, N, ⟨hk, hcl, hin, ⟨ty0, hty⟩, hnm⟩, hj, hd0, hfn, hdecl, hlink⟩ := hf
  have hc0 := g.rp.c0 hc (by omega)
  have hap := va_apart (own := M.1.cls) g.hts hin ty0 hty hnm g.hK hcl
  have hz := g.rp.2.2.1 c k n hc0 hc
  unfold zat at hz
  rw [if_pos hk] at hz
  obtain ⟨r0, a1, a2, cell, q1, q2, q3, q4⟩ := hz
  have hr : r0 = (C, T, N) := Option.some.inj (a1.symm.trans hcl)
  subst hr
  obtain ⟨hS, hfc, kC, hkC, hkind⟩ := g.hK.1 k _ hcl
  obtain ⟨cf, kf, fi, f, hi, hsl⟩ := hS j hj
  have hst := (u_facts hfc hkC (u_lays g.hts hin hj) hi).1
  have hslt : f.slot < cell.slots.size := by rw [hsl]; exact k2_hasslot (q4 j hj)
  have fin2 : ∀ (H' : Heap), H'[E.2.2.1 + c]? = some (cell.setSlot f.slot v) → H'.size = H.size → (∀ q : Nat, q ≠ E.2.2.1 + c → H'[q]? = H[q]?) → W p l e R s m args below meth c0 H' (locs ++ [⟨E.2.2.1 + c, f.slot⟩]) cells slots Q (F0 m (pc + 3) ls rest) := by
    intro H' e1 z1 oq
    rw [hsl] at e1
    refine kk H' _ (g.rp.put hc (by omega) (fun a b ha => h1 a b (Or.inl ha)) (fun a b ha => h2 a b (Or.inl ha)) ?_ (fun b => ?_) z1 oq) (g.sf.put hc0 z1 oq)
    · unfold zat
      rw [if_pos hk]
      refine ⟨_, hcl, a2, _, e1, q2, q3, fun b hb => ?_⟩
      rw [t_set q4 hap hj v b hb]
      unfold updV
      by_cases hbj : b = j
      · subst hbj
        rw [if_pos rfl]
        exact congrArg some hv.symm
      · rw [if_neg hbj]
        show some (zfv E k b (h.2.1 c b) (h.2.2 c b)) = some (zfv E k b (ρ c b) (μ c b))
        rw [h1 c b (Or.inr hbj), h2 c b (Or.inr hbj)]
    · by_cases hbj : b = j
      · subst hbj
        exact hok
      · rw [h2 c b (Or.inr hbj)]
        exact g.rp.2.2.2.1 c k n b hc
  have hlay := g.hts _ (hin _ (u_in_lay hj))
  unfold u_lay at hlay
  cases fin with
  | false =>
    rw [if_neg (by rw [hfn]; decide)] at hlay
    have h6 := u_store hfc hkC hkind hlay hi hd0 hn hfit
    rcases hlink with hlink | ⟨host, hlink⟩
    · exact W.putK g.hx g.hb (f := f) ⟨g.own, g.hts _ hlink, ⟨_, _, _, hi⟩, hst⟩ (by rw [q2]; exact h6) q1 q3 hslt rfl rfl hd fin2
    · exact va_WputK g.hx g.hb (f := f) g.own (va_Nw.use rfl (g.hst.2.1 _ hlink)) hi hst (by rw [q2]; exact h6) q1 q3 hslt rfl rfl hd fin2
  | true =>
    rw [if_pos hfn] at hlay
    obtain ⟨hin2, T', N', hcl'⟩ := hfin rfl
    have hCe : C = M.1.cls := by
      have := Option.some.inj (hcl.symm.trans hcl')
      exact congrArg Prod.fst this
    have hcf : m.cls = cf := by
      obtain ⟨_, _, c', _, _, _, -, -, hf', -, -, -, hown2, -⟩ := Cond.laysFinal_spec hlay
      have e1 : c' = cf := by have := hi.symm.trans hf'; simp at this; exact this.1.symm
      rw [hdecl, hCe] at hown2
      rw [← e1]; exact Option.some.inj (g.own.symm.trans hown2)
    have h6 := u_fits hfc hkC hkind (Or.inr hlay) hi hd0 hn hfit
    rcases hlink with hlink | ⟨host, hlink⟩
    · exact W.putFinK g.hx g.hb g.own (g.hts _ hlink) hi hst hcf (g.nm.trans hin2) (by rw [q2]; exact h6) q1 q3 hslt rfl rfl hd fin2
    · exact va_Wputf g.hx g.hb g.own (va_Nw.use rfl (g.hst.2.1 _ hlink)) hi hst (Or.inr ⟨hcf, g.nm.trans hin2⟩) q1 (by rw [q3]; exact fun h => by cases h) hslt h6.1 (by rw [q3, q2]; exact h6.2) rfl rfl hd (by
        have hl : E.2.2.1 + c < H.size := g.rp.sz hc
        exact fin2 _ (by simp [Array.getElem?_setIfInBounds, hl]) (by simp) (fun q hq => by simp [Array.getElem?_setIfInBounds, Ne.symm hq]))
theorem znar {E : zE} {ty : FieldType} (hty : (∃ n, ty = .object n) ∨ ∃ t, ty = .array t) (x : Nat) : narrow ty (zcv E (2, (x : Int))) = zcv E (2, (x : Int)) := by
  rw [zvR]
  unfold zrf
  rcases hty with ⟨n, rfl⟩ | ⟨t, rfl⟩ <;> split <;> rfl
theorem zfit {E : zE} {ty : FieldType} (hty : (∃ n, ty = .object n) ∨ ∃ t, ty = .array t) (x : Nat) : fits ty (zcv E (2, (x : Int))) = true := by
  rw [zvR]
  unfold zrf
  rcases hty with ⟨n, rfl⟩ | ⟨t, rfl⟩ <;> split <;> rfl
theorem znar_c (x : Int) : narrow .char (.int (Int32.ofInt x)) = Value.int (Int32.ofInt (x % 65536)) := by
  show Value.int ((Int32.ofInt x).toUInt32.toUInt16.toUInt32.toInt32) = _
  congr 1
  rw [← zi2c]
  apply Int32.toBitVec_inj.mp
  apply BitVec.eq_of_toNat_eq
  simp
theorem znar_z (x : Int) : narrow .boolean (.int (Int32.ofInt x)) = Value.int (Int32.ofInt (x % 2)) := by
  show Value.int (Int32.ofInt x &&& 1) = _
  congr 1
  apply Int32.toBitVec_inj.mp
  apply BitVec.eq_of_toNat_eq
  simp
  omega
theorem k_getI {M : zM} {pc : Nat} {L : List (Nat × zV)} {st : List zV} {h : zH} {r : Option zV × zH} {i k j c' : Nat} {ty : FieldType} {fin : Bool} {x : Int} (hd : decode M.2.1 pc = .ok (.getfield i, 3)) (hf : zFd M.1.cls i k j ty fin) (ht : zty k j = 0) (e : z_gI h k c' j = some x) (k0 : zK M (pc + 3) L ((0, x) :: st) h r) : zK M pc L ((2, (c' : Int)) :: st) h r := by
  obtain ⟨n, hc, rfl⟩ := z_gI_of e
  have hk := zhas hf
  refine ⟨k0.1, fun E p l e R s m args below meth c H locs cells slots n0 s0 Q ls g f => ?_⟩
  have hc0 := g.rp.c0 hc (by omega)
  rw [List.map_cons, zvR, zrf_ne hc0]
  refine zgetf g hf hc hd (zgo k0 g f (g.cnS.tail.cons (by have := g.rp.2.2.2.1 _ _ _ j hc; unfold ztp at this; rw [if_pos hk, ht] at this; exact this)) ?_)
  rw [List.map_cons]
  congr 1
  unfold zfv
  rw [ht]
  rfl
theorem k_getL {M : zM} {pc : Nat} {L : List (Nat × zV)} {st : List zV} {h : zH} {r : Option zV × zH} {i k j c' : Nat} {ty : FieldType} {fin : Bool} {x : Int} (hd : decode M.2.1 pc = .ok (.getfield i, 3)) (hf : zFd M.1.cls i k j ty fin) (ht : zty k j = 1) (e : z_gI h k c' j = some x) (k0 : zK M (pc + 3) L ((1, x) :: st) h r) : zK M pc L ((2, (c' : Int)) :: st) h r := by
  obtain ⟨n, hc, rfl⟩ := z_gI_of e
  have hk := zhas hf
  refine ⟨k0.1, fun E p l e R s m args below meth c H locs cells slots n0 s0 Q ls g f => ?_⟩
  have hc0 := g.rp.c0 hc (by omega)
  rw [List.map_cons, zvR, zrf_ne hc0]
  refine zgetf g hf hc hd (zgo k0 g f (g.cnS.tail.cons (by have := g.rp.2.2.2.1 _ _ _ j hc; unfold ztp at this; rw [if_pos hk, ht] at this; exact this)) ?_)
  rw [List.map_cons]
  congr 1
  unfold zfv
  rw [ht]
  rfl
theorem k_getR {M : zM} {pc : Nat} {L : List (Nat × zV)} {st : List zV} {h : zH} {r : Option zV × zH} {i k j c' : Nat} {ty : FieldType} {fin : Bool} {x : Nat} (hd : decode M.2.1 pc = .ok (.getfield i, 3)) (hf : zFd M.1.cls i k j ty fin) (ht : zty k j = 2) (e : z_gR h k c' j = some x) (k0 : zK M (pc + 3) L ((2, (x : Int)) :: st) h r) : zK M pc L ((2, (c' : Int)) :: st) h r := by
  obtain ⟨n, hc, hx0, rfl⟩ := z_gR_of e
  have hk := zhas hf
  refine ⟨k0.1, fun E p l e R s m args below meth c H locs cells slots n0 s0 Q ls g f => ?_⟩
  have hc0 := g.rp.c0 hc (by omega)
  rw [List.map_cons, zvR, zrf_ne hc0]
  refine zgetf g hf hc hd (zgo k0 g f (g.cnS.tail.cons (zcn_of hx0)) ?_)
  rw [List.map_cons]
  congr 1
  unfold zfv
  rw [ht]
  rfl
theorem k_putI {M : zM} {pc : Nat} {L : List (Nat × zV)} {st : List zV} {h : zH} {r : Option zV × zH} {i k j c' : Nat} {fin : Bool} {x : Int} {h' : zH}  (hd : decode M.2.1 pc = .ok (.putfield i, 3)) (hf : zFd M.1.cls i k j .int fin) (hfin : fin = true → M.1.name = "<init>" ∧ ∃ T N, classes[k]? = some (M.1.cls, T, N)) (ht : zty k j = 0) (e : z_pI h k c' j x = some h') (k0 : zK M (pc + 3) L st h' r) : zK M pc L ((0, x) :: (2, (c' : Int)) :: st) h r := by
  obtain ⟨n, hc, rfl⟩ := z_pI_of e
  have hk := zhas hf
  refine ⟨k0.1, fun E p l e R s m args below meth c H locs cells slots n0 s0 Q ls g f => ?_⟩
  have hc0 := g.rp.c0 hc (by omega)
  rw [List.map_cons, List.map_cons, zvR E c', zrf_ne hc0]
  have hcx : zcn (0, x) := g.cnS.head
  refine zputf (ρ := h.2.1) (μ := z_up h.2.2 c' j x) g hf hfin hc hd ?_ ?_ ?_ rfl rfl ?_ (fun H' locs' hr hs => k0.2 E p l e R s m args below meth c H' locs' cells slots n0 s0 Q ls (g.hp g.cnS.tail.tail hr hs g.2.2.2.2.2.2.2.1 g.2.2.2.2.2.2.2.2.1) f)
  · intro a b hab
    rfl
  · intro a b hab
    exact if_neg (fun q => hab.elim (fun z => z q.1) (fun z => z q.2))
  · unfold zfv
    rw [ht]
    rw [z_up_eq]; rfl
  · unfold ztp; rw [if_pos hk, ht, z_up_eq]; exact hcx
theorem k_putL {M : zM} {pc : Nat} {L : List (Nat × zV)} {st : List zV} {h : zH} {r : Option zV × zH} {i k j c' : Nat} {fin : Bool} {x : Int} {h' : zH}  (hd : decode M.2.1 pc = .ok (.putfield i, 3)) (hf : zFd M.1.cls i k j .long fin) (hfin : fin = true → M.1.name = "<init>" ∧ ∃ T N, classes[k]? = some (M.1.cls, T, N)) (ht : zty k j = 1) (e : z_pI h k c' j x = some h') (k0 : zK M (pc + 3) L st h' r) : zK M pc L ((1, x) :: (2, (c' : Int)) :: st) h r := by
  obtain ⟨n, hc, rfl⟩ := z_pI_of e
  have hk := zhas hf
  refine ⟨k0.1, fun E p l e R s m args below meth c H locs cells slots n0 s0 Q ls g f => ?_⟩
  have hc0 := g.rp.c0 hc (by omega)
  rw [List.map_cons, List.map_cons, zvR E c', zrf_ne hc0]
  have hcx : zcn (1, x) := g.cnS.head
  refine zputf (ρ := h.2.1) (μ := z_up h.2.2 c' j x) g hf hfin hc hd ?_ ?_ ?_ rfl rfl ?_ (fun H' locs' hr hs => k0.2 E p l e R s m args below meth c H' locs' cells slots n0 s0 Q ls (g.hp g.cnS.tail.tail hr hs g.2.2.2.2.2.2.2.1 g.2.2.2.2.2.2.2.2.1) f)
  · intro a b hab
    rfl
  · intro a b hab
    exact if_neg (fun q => hab.elim (fun z => z q.1) (fun z => z q.2))
  · unfold zfv
    rw [ht]
    rw [z_up_eq]; rfl
  · unfold ztp; rw [if_pos hk, ht, z_up_eq]; exact hcx
theorem k_putZ {M : zM} {pc : Nat} {L : List (Nat × zV)} {st : List zV} {h : zH} {r : Option zV × zH} {i k j c' : Nat} {fin : Bool} {x : Int} {h' : zH}  (hd : decode M.2.1 pc = .ok (.putfield i, 3)) (hf : zFd M.1.cls i k j .boolean fin) (hfin : fin = true → M.1.name = "<init>" ∧ ∃ T N, classes[k]? = some (M.1.cls, T, N)) (ht : zty k j = 0) (e : z_pZ h k c' j x = some h') (k0 : zK M (pc + 3) L st h' r) : zK M pc L ((0, x) :: (2, (c' : Int)) :: st) h r := by
  unfold z_pZ at e
  obtain ⟨hx, e⟩ := z_io e
  obtain ⟨n, hc, rfl⟩ := z_pI_of e
  have hk := zhas hf
  refine ⟨k0.1, fun E p l e R s m args below meth c H locs cells slots n0 s0 Q ls g f => ?_⟩
  have hc0 := g.rp.c0 hc (by omega)
  rw [List.map_cons, List.map_cons, zvR E c', zrf_ne hc0]
  have hcx : zcn (0, x) := g.cnS.head
  refine zputf (ρ := h.2.1) (μ := z_up h.2.2 c' j x) g hf hfin hc hd ?_ ?_ ?_ (by rcases hx with rfl | rfl <;> rfl) (by rcases hx with rfl | rfl <;> rfl) ?_ (fun H' locs' hr hs => k0.2 E p l e R s m args below meth c H' locs' cells slots n0 s0 Q ls (g.hp g.cnS.tail.tail hr hs g.2.2.2.2.2.2.2.1 g.2.2.2.2.2.2.2.2.1) f)
  · intro a b hab
    rfl
  · intro a b hab
    exact if_neg (fun q => hab.elim (fun z => z q.1) (fun z => z q.2))
  · unfold zfv
    rw [ht]
    rw [z_up_eq]; rfl
  · unfold ztp; rw [if_pos hk, ht, z_up_eq]; exact hcx
theorem k_putR {M : zM} {pc : Nat} {L : List (Nat × zV)} {st : List zV} {h : zH} {r : Option zV × zH} {i k j c' : Nat} {fin : Bool} {x : Nat} {h' : zH} {ty : FieldType} (hty : (∃ n, ty = .object n) ∨ ∃ t, ty = .array t) (hd : decode M.2.1 pc = .ok (.putfield i, 3)) (hf : zFd M.1.cls i k j ty fin) (hfin : fin = true → M.1.name = "<init>" ∧ ∃ T N, classes[k]? = some (M.1.cls, T, N)) (ht : zty k j = 2) (e : z_pR h k c' j x = some h') (k0 : zK M (pc + 3) L st h' r) : zK M pc L ((2, (x : Int)) :: (2, (c' : Int)) :: st) h r := by
  obtain ⟨n, hc, rfl⟩ := z_pR_of e
  have hk := zhas hf
  refine ⟨k0.1, fun E p l e R s m args below meth c H locs cells slots n0 s0 Q ls g f => ?_⟩
  have hc0 := g.rp.c0 hc (by omega)
  rw [List.map_cons, List.map_cons, zvR E c', zrf_ne hc0]
  have hcx : zcn (2, (x : Int)) := g.cnS.head
  refine zputf (ρ := z_up h.2.1 c' j x) (μ := h.2.2) g hf hfin hc hd ?_ ?_ ?_ (znar hty x) (zfit hty x) ?_ (fun H' locs' hr hs => k0.2 E p l e R s m args below meth c H' locs' cells slots n0 s0 Q ls (g.hp g.cnS.tail.tail hr hs g.2.2.2.2.2.2.2.1 g.2.2.2.2.2.2.2.2.1) f)
  · intro a b hab
    exact if_neg (fun q => hab.elim (fun z => z q.1) (fun z => z q.2))
  · intro a b hab
    rfl
  · unfold zfv
    rw [ht]
    rw [z_up_eq]; rfl
  · unfold ztp; rw [if_pos hk, ht]; trivial
theorem k_iald {M : zM} {pc : Nat} {L : List (Nat × zV)} {st : List zV} {h : zH} {r : Option zV × zH} {c' : Nat} {i : Int} {x : Int} (hd : decode M.2.1 pc = .ok (.iaload, 1)) (e : z_aI h 20 c' i = some x) (k0 : zK M (pc + 1) L ((0, x) :: st) h r) : zK M pc L ((0, i) :: (2, (c' : Int)) :: st) h r := by
  obtain ⟨n, hc, hi, rfl⟩ := z_aI_of e
  refine ⟨k0.1, fun E p l e R s m args below meth c H locs cells slots n0 s0 Q ls g f => ?_⟩
  have hc0 := g.rp.c0 hc (by decide)
  have ha := g.rp.arr hc (by decide) (by decide)
  have hi3 : zi32 i := g.cnS.head
  rw [List.map_cons, List.map_cons, zvR, zrf_ne hc0, zvI]
  refine W.iald g.hx g.hb ha ((g.hK.2 0 _ rfl).1 n _) (fun q => by cases q) (by rw [arrV_size]; exact zin hi3 hi) (v := zcv E (0, h.2.2 c' i.toNat)) ?_ rfl rfl hd (zgo k0 g f (g.cnS.tail.tail.cons (by have := g.rp.2.2.2.1 _ _ _ i.toNat hc; exact this)) rfl)
  rw [arrV_read _ _ (by rw [zI_cl hi3]; omega), zI_cl hi3]
  rfl
theorem k_cald {M : zM} {pc : Nat} {L : List (Nat × zV)} {st : List zV} {h : zH} {r : Option zV × zH} {c' : Nat} {i : Int} {x : Int} (hd : decode M.2.1 pc = .ok (.caload, 1)) (e : z_aI h 21 c' i = some x) (k0 : zK M (pc + 1) L ((0, x) :: st) h r) : zK M pc L ((0, i) :: (2, (c' : Int)) :: st) h r := by
  obtain ⟨n, hc, hi, rfl⟩ := z_aI_of e
  refine ⟨k0.1, fun E p l e R s m args below meth c H locs cells slots n0 s0 Q ls g f => ?_⟩
  have hc0 := g.rp.c0 hc (by decide)
  have ha := g.rp.arr hc (by decide) (by decide)
  have hi3 : zi32 i := g.cnS.head
  rw [List.map_cons, List.map_cons, zvR, zrf_ne hc0, zvI]
  refine W.cald g.hx g.hb ha ((g.hK.2 1 _ rfl).1 n _) (fun q => by cases q) (by rw [arrV_size]; exact zin hi3 hi) (v := zcv E (0, h.2.2 c' i.toNat)) ?_ rfl rfl hd (zgo k0 g f (g.cnS.tail.tail.cons (by have := g.rp.2.2.2.1 _ _ _ i.toNat hc; have h9 : 0 ≤ h.2.2 c' i.toNat ∧ h.2.2 c' i.toNat < 65536 := this; show zi32 _; unfold zi32; omega)) rfl)
  rw [arrV_read _ _ (by rw [zI_cl hi3]; omega), zI_cl hi3]
  rfl
theorem k_zald {M : zM} {pc : Nat} {L : List (Nat × zV)} {st : List zV} {h : zH} {r : Option zV × zH} {c' : Nat} {i : Int} {x : Int} (hd : decode M.2.1 pc = .ok (.baload, 1)) (e : z_aI h 22 c' i = some x) (k0 : zK M (pc + 1) L ((0, x) :: st) h r) : zK M pc L ((0, i) :: (2, (c' : Int)) :: st) h r := by
  obtain ⟨n, hc, hi, rfl⟩ := z_aI_of e
  refine ⟨k0.1, fun E p l e R s m args below meth c H locs cells slots n0 s0 Q ls g f => ?_⟩
  have hc0 := g.rp.c0 hc (by decide)
  have ha := g.rp.arr hc (by decide) (by decide)
  have hi3 : zi32 i := g.cnS.head
  rw [List.map_cons, List.map_cons, zvR, zrf_ne hc0, zvI]
  refine W.zald g.hx g.hb ha ((g.hK.2 2 _ rfl).1 n _) (fun q => by cases q) (by rw [arrV_size]; exact zin hi3 hi) (v := zcv E (0, h.2.2 c' i.toNat)) ?_ rfl rfl hd (zgo k0 g f (g.cnS.tail.tail.cons (by have := g.rp.2.2.2.1 _ _ _ i.toNat hc; exact this)) rfl)
  rw [arrV_read _ _ (by rw [zI_cl hi3]; omega), zI_cl hi3]
  rfl
theorem k_lald {M : zM} {pc : Nat} {L : List (Nat × zV)} {st : List zV} {h : zH} {r : Option zV × zH} {c' : Nat} {i : Int} {x : Int} (hd : decode M.2.1 pc = .ok (.laload, 1)) (e : z_aI h 23 c' i = some x) (k0 : zK M (pc + 1) L ((1, x) :: st) h r) : zK M pc L ((0, i) :: (2, (c' : Int)) :: st) h r := by
  obtain ⟨n, hc, hi, rfl⟩ := z_aI_of e
  refine ⟨k0.1, fun E p l e R s m args below meth c H locs cells slots n0 s0 Q ls g f => ?_⟩
  have hc0 := g.rp.c0 hc (by decide)
  have ha := g.rp.arr hc (by decide) (by decide)
  have hi3 : zi32 i := g.cnS.head
  rw [List.map_cons, List.map_cons, zvR, zrf_ne hc0, zvI]
  refine W.lald g.hx g.hb ha ((g.hK.2 3 _ rfl).1 n _) (fun q => by cases q) (by rw [arrV_size]; exact zin hi3 hi) (v := zcv E (1, h.2.2 c' i.toNat)) ?_ rfl rfl hd (zgo k0 g f (g.cnS.tail.tail.cons (by have := g.rp.2.2.2.1 _ _ _ i.toNat hc; exact this)) rfl)
  rw [arrV_read _ _ (by rw [zI_cl hi3]; omega), zI_cl hi3]
  rfl
theorem k_rald24 {M : zM} {pc : Nat} {L : List (Nat × zV)} {st : List zV} {h : zH} {r : Option zV × zH} {c' : Nat} {i : Int} {x : Nat} (hd : decode M.2.1 pc = .ok (.aaload, 1)) (e : z_aR h 24 c' i = some x) (k0 : zK M (pc + 1) L ((2, (x : Int)) :: st) h r) : zK M pc L ((0, i) :: (2, (c' : Int)) :: st) h r := by
  obtain ⟨n, hc, hi, hx0, rfl⟩ := z_aR_of e
  refine ⟨k0.1, fun E p l e R s m args below meth c H locs cells slots n0 s0 Q ls g f => ?_⟩
  have hc0 := g.rp.c0 hc (by decide)
  have ha := g.rp.arr hc (by decide) (by decide)
  have hi3 : zi32 i := g.cnS.head
  rw [List.map_cons, List.map_cons, zvR, zrf_ne hc0, zvI]
  refine W.aald (ty := .object "ScopeLines$Rule") g.hx g.hb ha ((g.hK.2 4 _ rfl).1 n _) rfl (fun q => by cases q) (by rw [arrV_size]; exact zin hi3 hi) (v := zcv E (2, ((h.2.1 c' i.toNat : Nat) : Int))) ?_ rfl rfl hd (zgo k0 g f (g.cnS.tail.tail.cons (zcn_of hx0)) rfl)
  rw [arrV_read _ _ (by rw [zI_cl hi3]; omega), zI_cl hi3]
  rfl
theorem k_rald25 {M : zM} {pc : Nat} {L : List (Nat × zV)} {st : List zV} {h : zH} {r : Option zV × zH} {c' : Nat} {i : Int} {x : Nat} (hd : decode M.2.1 pc = .ok (.aaload, 1)) (e : z_aR h 25 c' i = some x) (k0 : zK M (pc + 1) L ((2, (x : Int)) :: st) h r) : zK M pc L ((0, i) :: (2, (c' : Int)) :: st) h r := by
  obtain ⟨n, hc, hi, hx0, rfl⟩ := z_aR_of e
  refine ⟨k0.1, fun E p l e R s m args below meth c H locs cells slots n0 s0 Q ls g f => ?_⟩
  have hc0 := g.rp.c0 hc (by decide)
  have ha := g.rp.arr hc (by decide) (by decide)
  have hi3 : zi32 i := g.cnS.head
  rw [List.map_cons, List.map_cons, zvR, zrf_ne hc0, zvI]
  refine W.aald (ty := .object "ScopeLines$Line") g.hx g.hb ha ((g.hK.2 5 _ rfl).1 n _) rfl (fun q => by cases q) (by rw [arrV_size]; exact zin hi3 hi) (v := zcv E (2, ((h.2.1 c' i.toNat : Nat) : Int))) ?_ rfl rfl hd (zgo k0 g f (g.cnS.tail.tail.cons (zcn_of hx0)) rfl)
  rw [arrV_read _ _ (by rw [zI_cl hi3]; omega), zI_cl hi3]
  rfl
theorem k_iast {M : zM} {pc : Nat} {L : List (Nat × zV)} {st : List zV} {h : zH} {r : Option zV × zH} {c' : Nat} {i x : Int} {h' : zH} (hd : decode M.2.1 pc = .ok (.iastore, 1)) (e : z_sI h 20 c' i (x) = some h') (k0 : zK M (pc + 1) L st h' r) : zK M pc L ((0, x) :: (0, i) :: (2, (c' : Int)) :: st) h r := by
  obtain ⟨n, hc, hi, rfl⟩ := z_sI_of e
  refine ⟨k0.1, fun E p l e R s m args below meth c H locs cells slots n0 s0 Q ls g f => ?_⟩
  have hc0 := g.rp.c0 hc (by decide)
  have ha := g.rp.arr hc (by decide) (by decide)
  have hi3 : zi32 i := g.cnS.tail.head
  have hx3 : zcn (0, x) := g.cnS.head
  rw [List.map_cons, List.map_cons, List.map_cons, zvR, zrf_ne hc0, zvI]
  refine W.iast g.hx g.hb ha ((g.hK.2 0 _ rfl).1 n _) (fun q => by cases q) (by rw [arrV_size]; exact zin hi3 hi) rfl rfl hd fun H' e1 z1 oq => ?_
  refine k0.2 E p l e R s m args below meth c H' _ cells slots n0 s0 Q ls (g.hp g.cnS.tail.tail.tail (g.rp.put hc (by decide) (fun _ _ _ => rfl) (fun a b hab => z_up_ne hab) ?_ (fun b => ?_) z1 oq) (g.sf.put hc0 z1 oq) g.2.2.2.2.2.2.2.1 g.2.2.2.2.2.2.2.2.1) f
  · unfold zat
    rw [if_neg (by decide), e1, arrV_store, zI_cl hi3]
    congr 2
    funext b
    unfold updV
    by_cases hb : b = i.toNat
    · subst hb
      rw [if_pos rfl]
      show _ = zav E 20 _ (z_up h.2.2 c' i.toNat (x) c' i.toNat)
      rw [z_up_eq]
      rfl
    · rw [if_neg hb]
      show _ = zav E 20 _ (z_up h.2.2 c' i.toNat (x) c' b)
      rw [z_up_nj hb]
  · by_cases hb : b = i.toNat
    · subst hb
      show zok (ztp 20 _) (z_up h.2.2 c' i.toNat (x) c' i.toNat)
      rw [z_up_eq]
      exact hx3
    · show zok (ztp 20 _) (z_up h.2.2 c' i.toNat (x) c' b)
      rw [z_up_nj hb]
      exact g.rp.2.2.2.1 _ _ _ b hc
theorem k_last {M : zM} {pc : Nat} {L : List (Nat × zV)} {st : List zV} {h : zH} {r : Option zV × zH} {c' : Nat} {i x : Int} {h' : zH} (hd : decode M.2.1 pc = .ok (.lastore, 1)) (e : z_sI h 23 c' i (x) = some h') (k0 : zK M (pc + 1) L st h' r) : zK M pc L ((1, x) :: (0, i) :: (2, (c' : Int)) :: st) h r := by
  obtain ⟨n, hc, hi, rfl⟩ := z_sI_of e
  refine ⟨k0.1, fun E p l e R s m args below meth c H locs cells slots n0 s0 Q ls g f => ?_⟩
  have hc0 := g.rp.c0 hc (by decide)
  have ha := g.rp.arr hc (by decide) (by decide)
  have hi3 : zi32 i := g.cnS.tail.head
  have hx3 : zcn (1, x) := g.cnS.head
  rw [List.map_cons, List.map_cons, List.map_cons, zvR, zrf_ne hc0, zvI]
  refine W.last g.hx g.hb ha ((g.hK.2 3 _ rfl).1 n _) (fun q => by cases q) (by rw [arrV_size]; exact zin hi3 hi) rfl rfl hd fun H' e1 z1 oq => ?_
  refine k0.2 E p l e R s m args below meth c H' _ cells slots n0 s0 Q ls (g.hp g.cnS.tail.tail.tail (g.rp.put hc (by decide) (fun _ _ _ => rfl) (fun a b hab => z_up_ne hab) ?_ (fun b => ?_) z1 oq) (g.sf.put hc0 z1 oq) g.2.2.2.2.2.2.2.1 g.2.2.2.2.2.2.2.2.1) f
  · unfold zat
    rw [if_neg (by decide), e1, arrV_store, zI_cl hi3]
    congr 2
    funext b
    unfold updV
    by_cases hb : b = i.toNat
    · subst hb
      rw [if_pos rfl]
      show _ = zav E 23 _ (z_up h.2.2 c' i.toNat (x) c' i.toNat)
      rw [z_up_eq]
      rfl
    · rw [if_neg hb]
      show _ = zav E 23 _ (z_up h.2.2 c' i.toNat (x) c' b)
      rw [z_up_nj hb]
  · by_cases hb : b = i.toNat
    · subst hb
      show zok (ztp 23 _) (z_up h.2.2 c' i.toNat (x) c' i.toNat)
      rw [z_up_eq]
      exact hx3
    · show zok (ztp 23 _) (z_up h.2.2 c' i.toNat (x) c' b)
      rw [z_up_nj hb]
      exact g.rp.2.2.2.1 _ _ _ b hc
theorem k_cast {M : zM} {pc : Nat} {L : List (Nat × zV)} {st : List zV} {h : zH} {r : Option zV × zH} {c' : Nat} {i x : Int} {h' : zH} (hd : decode M.2.1 pc = .ok (.castore, 1)) (e : z_sI h 21 c' i (x % 65536) = some h') (k0 : zK M (pc + 1) L st h' r) : zK M pc L ((0, x) :: (0, i) :: (2, (c' : Int)) :: st) h r := by
  obtain ⟨n, hc, hi, rfl⟩ := z_sI_of e
  refine ⟨k0.1, fun E p l e R s m args below meth c H locs cells slots n0 s0 Q ls g f => ?_⟩
  have hc0 := g.rp.c0 hc (by decide)
  have ha := g.rp.arr hc (by decide) (by decide)
  have hi3 : zi32 i := g.cnS.tail.head
  have hx3 : zcn (0, x) := g.cnS.head
  rw [List.map_cons, List.map_cons, List.map_cons, zvR, zrf_ne hc0, zvI]
  refine W.cast g.hx g.hb ha ((g.hK.2 1 _ rfl).1 n _) (fun q => by cases q) (by rw [arrV_size]; exact zin hi3 hi) rfl rfl hd fun H' e1 z1 oq => ?_
  refine k0.2 E p l e R s m args below meth c H' _ cells slots n0 s0 Q ls (g.hp g.cnS.tail.tail.tail (g.rp.put hc (by decide) (fun _ _ _ => rfl) (fun a b hab => z_up_ne hab) ?_ (fun b => ?_) z1 oq) (g.sf.put hc0 z1 oq) g.2.2.2.2.2.2.2.1 g.2.2.2.2.2.2.2.2.1) f
  · unfold zat
    rw [if_neg (by decide), e1, arrV_store, zI_cl hi3]
    congr 2
    funext b
    unfold updV
    by_cases hb : b = i.toNat
    · subst hb
      rw [if_pos rfl]
      show _ = zav E 21 _ (z_up h.2.2 c' i.toNat (x % 65536) c' i.toNat)
      rw [z_up_eq]
      exact znar_c x
    · rw [if_neg hb]
      show _ = zav E 21 _ (z_up h.2.2 c' i.toNat (x % 65536) c' b)
      rw [z_up_nj hb]
  · by_cases hb : b = i.toNat
    · subst hb
      show zok (ztp 21 _) (z_up h.2.2 c' i.toNat (x % 65536) c' i.toNat)
      rw [z_up_eq]
      exact ⟨by omega, by omega⟩
    · show zok (ztp 21 _) (z_up h.2.2 c' i.toNat (x % 65536) c' b)
      rw [z_up_nj hb]
      exact g.rp.2.2.2.1 _ _ _ b hc
theorem k_zast {M : zM} {pc : Nat} {L : List (Nat × zV)} {st : List zV} {h : zH} {r : Option zV × zH} {c' : Nat} {i x : Int} {h' : zH} (hd : decode M.2.1 pc = .ok (.bastore, 1)) (e : z_sI h 22 c' i (x % 2) = some h') (k0 : zK M (pc + 1) L st h' r) : zK M pc L ((0, x) :: (0, i) :: (2, (c' : Int)) :: st) h r := by
  obtain ⟨n, hc, hi, rfl⟩ := z_sI_of e
  refine ⟨k0.1, fun E p l e R s m args below meth c H locs cells slots n0 s0 Q ls g f => ?_⟩
  have hc0 := g.rp.c0 hc (by decide)
  have ha := g.rp.arr hc (by decide) (by decide)
  have hi3 : zi32 i := g.cnS.tail.head
  have hx3 : zcn (0, x) := g.cnS.head
  rw [List.map_cons, List.map_cons, List.map_cons, zvR, zrf_ne hc0, zvI]
  refine W.zast g.hx g.hb ha ((g.hK.2 2 _ rfl).1 n _) (fun q => by cases q) (by rw [arrV_size]; exact zin hi3 hi) rfl rfl hd fun H' e1 z1 oq => ?_
  refine k0.2 E p l e R s m args below meth c H' _ cells slots n0 s0 Q ls (g.hp g.cnS.tail.tail.tail (g.rp.put hc (by decide) (fun _ _ _ => rfl) (fun a b hab => z_up_ne hab) ?_ (fun b => ?_) z1 oq) (g.sf.put hc0 z1 oq) g.2.2.2.2.2.2.2.1 g.2.2.2.2.2.2.2.2.1) f
  · unfold zat
    rw [if_neg (by decide), e1, arrV_store, zI_cl hi3]
    congr 2
    funext b
    unfold updV
    by_cases hb : b = i.toNat
    · subst hb
      rw [if_pos rfl]
      show _ = zav E 22 _ (z_up h.2.2 c' i.toNat (x % 2) c' i.toNat)
      rw [z_up_eq]
      exact znar_z x
    · rw [if_neg hb]
      show _ = zav E 22 _ (z_up h.2.2 c' i.toNat (x % 2) c' b)
      rw [z_up_nj hb]
  · by_cases hb : b = i.toNat
    · subst hb
      show zok (ztp 22 _) (z_up h.2.2 c' i.toNat (x % 2) c' i.toNat)
      rw [z_up_eq]
      show zi32 _; unfold zi32; omega
    · show zok (ztp 22 _) (z_up h.2.2 c' i.toNat (x % 2) c' b)
      rw [z_up_nj hb]
      exact g.rp.2.2.2.1 _ _ _ b hc
end
section
/-! Rows: new cells, calls, returns, switches, the script. -/
theorem zsl_new (h : zH) (k n : Nat) : zsl (z_new h k n) = zsl h + n := by
  unfold zsl z_new
  simp
theorem zlen_new (h : zH) (k n : Nat) : (z_new h k n).1.length = h.1.length + 1 := by
  unfold z_new
  simp
theorem zok_0 (t : Nat) : zok t 0 := by
  unfold zok
  split
  · unfold zi32; omega
  · unfold zi64; omega
  · omega
  · trivial
/-- a cell more -/
theorem zRp.new {E : zE} {h : zH} {H H' : Heap} (hR : zRp E h H) {k n : Nat} (hat : zat E (z_new h k n) h.1.length k n H') (z : H'.size = H.size + 1) (oq : ∀ q : Nat, q < H.size → H'[q]? = H[q]?) : zRp E (z_new h k n) H' := by
  obtain ⟨r1, r2, r3, r4, r5⟩ := hR
  have r6 := r5.2.1
  have hpos : 0 < h.1.length := (List.getElem?_eq_some_iff.mp r2).1
  have hl : ∀ c, c ≠ h.1.length → (z_new h k n).1[c]? = h.1[c]? := by
    intro c hc
    show (h.1 ++ [(k, n)])[c]? = _
    by_cases hlt : c < h.1.length
    · rw [List.getElem?_append_left hlt]
    · rw [List.getElem?_append_right (by omega), List.getElem?_eq_none (by simp; omega), List.getElem?_eq_none (by omega)]
  have hs : (z_new h k n).1[h.1.length]? = some (k, n) := by
    show (h.1 ++ [(k, n)])[h.1.length]? = _
    rw [List.getElem?_append_right (Nat.le_refl _)]
    simp
  refine ⟨by rw [z, r1, zlen_new]; omega, by rw [hl 0 (by omega)]; exact r2, fun c k' n' g0 g1 => ?_, fun c k' n' j g1 => ?_, ?_⟩
  · by_cases he : c = h.1.length
    · subst he
      cases hs.symm.trans g1
      exact hat
    · rw [hl c he] at g1
      have hlt := (List.getElem?_eq_some_iff.mp g1).1
      exact (r3 c k' n' g0 g1).same (fun j => if_neg he) (fun j => if_neg he) (oq _ (by omega))
  · by_cases he : c = h.1.length
    · subst he
      show zok _ (if h.1.length = h.1.length then 0 else _)
      rw [if_pos rfl]
      exact zok_0 _
    · rw [hl c he] at g1
      show zok _ (if c = h.1.length then 0 else _)
      rw [if_neg he]
      exact r4 c k' n' j g1
  · refine ⟨by rw [oq _ (by rw [r1]; omega)]; exact r5.1, r6, fun j hj => ?_⟩
    rw [r5.2.2 j hj]
    show _ = Int32.ofInt (if 0 = h.1.length then 0 else _)
    rw [if_neg (by omega)]
theorem zSf.new {E : zE} {H0 H H' : Heap} {locs : List Loc} (hS : zSf E H0 H locs) (hB : E.2.2.1 < H.size) (z : H'.size = H.size + 1) (oq : ∀ q : Nat, q < H.size → H'[q]? = H[q]?) : zSf E H0 H' locs := by
  obtain ⟨s1, s2, s3⟩ := hS
  exact ⟨fun q hq => by rw [oq q (by omega)]; exact s1 q hq, s2, by omega⟩
theorem zRp.B {E : zE} {h : zH} {H : Heap} (hR : zRp E h H) : E.2.2.1 < H.size := by
  have hpos : 0 < h.1.length := (List.getElem?_eq_some_iff.mp hR.2.1).1
  have := hR.1
  omega
theorem zRp.l0 {E : zE} {h : zH} {H : Heap} (hR : zRp E h H) : h.1.length ≠ 0 := by
  have hpos : 0 < h.1.length := (List.getElem?_eq_some_iff.mp hR.2.1).1
  omega
/-- a class that an instruction of the class own makes objects of -/
def zNw (own : String) (i k N : Nat) : Prop := ∃ C T, zCk k C T N ∧ (∀ j, j < N → ∃ ty, parseFieldDescriptor (T j).2.2.1 = some ty ∧ defaultValue ty = zdf (zty k j)) ∧ Cond.classLink own i C ∈ zGW ∧ Cond.instantiable C N ∈ zGW ∧ Cond.initialized C ∈ zGW
theorem zfv_0 (E : zE) (k j : Nat) : zfv E k j 0 0 = zdf (zty k j) := by
  unfold zfv zdf
  generalize zty k j = t
  match t with
  | 0 => rfl
  | 1 => rfl
  | (n + 2) => rfl
theorem k_new {M : zM} {pc : Nat} {L : List (Nat × zV)} {st : List zV} {h : zH} {r : Option zV × zH} {i k N : Nat} (hd : decode M.2.1 pc = .ok (.new i, 3)) (hw : zNw M.1.cls i k N) (k0 : zK M (pc + 3) L ((2, (h.1.length : Int)) :: st) (z_new h k N) r) : zK M pc L st h r := by
  obtain ⟨C, T, ⟨hk, hcl, hin, ⟨ty0, hty⟩, hnm⟩, hdf, hlink, hins, hini⟩ := hw
  have k1 := k0.1
  rw [zlen_new, zsl_new] at k1
  refine ⟨⟨by omega, by omega⟩, fun E p l e R s m args below meth c H locs cells slots n0 s0 Q ls g f => ?_⟩
  have hKn := g.hK.1 k _ hcl
  obtain ⟨b1, b2, b3, b4⟩ := g.2.2.2.2.2.2.2
  refine W.newcK g.hx g.hb g.own (g.hts _ hlink) (g.hts _ hins) (g.hts _ hini) rfl hd (by omega) (by omega) hKn.2.1 rfl fun H' kC hkC e1 z1 o1 => ?_
  have hsz : H.size = E.2.2.1 + h.1.length := g.rp.1
  have hat : zat E (z_new h k N) h.1.length k N H' := by
    unfold zat
    rw [if_pos hk]
    refine ⟨_, hcl, rfl, ?_⟩
    rw [← hsz]
    refine (u_born ty0 g.hts hin hKn hkC e1 hty).to fun j hj => ?_
    obtain ⟨ty, g1, g2⟩ := hdf j hj
    cases (hty j hj).symm.trans g1
    show defaultValue (ty0 j) = zfv E k j (if h.1.length = h.1.length then 0 else _) (if h.1.length = h.1.length then 0 else _)
    rw [if_pos rfl, if_pos rfl, g2, zfv_0]
  have g2 := g.hp (st' := (2, (h.1.length : Int)) :: st) (cells' := cells + 1) (slots' := slots + N) (g.cnS.cons (zcn_of g.rp.l0)) (g.rp.new hat z1 o1) (g.sf.new g.rp.B z1 o1) (by rw [zlen_new]; omega) (by rw [zsl_new]; omega)
  have q := k0.2 E p l e R s m args below meth c H' locs (cells + 1) (slots + N) n0 s0 Q ls g2 f
  rw [List.map_cons, zvR, zrf_ne g.rp.l0, ← hsz] at q
  exact q
theorem k_nwi {M : zM} {pc : Nat} {L : List (Nat × zV)} {st : List zV} {h : zH} {r : Option zV × zH} {n : Int} {h' : zH} (hd : decode M.2.1 pc = .ok (.newarray .int, 2)) (hw : Cond.arrayClass .int ∈ zGW) (e : z_nwA h 20 n = some h') (k0 : zK M (pc + 2) L ((2, (h.1.length : Int)) :: st) h' r) : zK M pc L ((0, n) :: st) h r := by
  unfold z_nwA at e
  obtain ⟨hn, e⟩ := z_io e
  cases e
  have k1 := k0.1
  rw [zlen_new, zsl_new] at k1
  refine ⟨⟨by omega, by omega⟩, fun E p l e R s m args below meth c H locs cells slots n0 s0 Q ls g f => ?_⟩
  obtain ⟨b1, b2, b3, b4⟩ := g.2.2.2.2.2.2.2
  have hn3 : zi32 n := g.cnS.head
  have hcl := zI_cl hn3
  have hsz : H.size = E.2.2.1 + h.1.length := g.rp.1
  have hcb : componentBytes (newarray.typeOf .int) ≤ 8 := by decide
  have h9 : n.toNat ≤ 100000 := by omega
  have hby : n.toNat * componentBytes (newarray.typeOf .int) ≤ 536870912 := Nat.le_trans (Nat.mul_le_mul h9 hcb) (by decide)
  rw [List.map_cons, zvI]
  refine va_newaK (N := n.toNat) (atype := .int) g.hx g.hb (g.hts _ hw) rfl hd rfl (by rw [zbl0 hn3]; omega) hcl hby (by omega) (by omega) rfl fun H' cA e1 z1 o1 hAr hNm => ?_
  have hA : cA = E.2.1 0 := by
    have h8 := (g.hK.2 0 _ rfl).2
    exact Option.some.inj (hNm.symm.trans h8)
  subst hA
  have hat : zat E (z_new h 20 n.toNat) h.1.length 20 n.toNat H' := by
    unfold zat
    rw [if_neg (by decide), ← hsz, e1]
    congr 2
    funext j
    show _ = zav E 20 (if h.1.length = h.1.length then 0 else _) (if h.1.length = h.1.length then 0 else _)
    rw [if_pos rfl, if_pos rfl]
    rfl
  have g2 := g.hp (st' := (2, (h.1.length : Int)) :: st) (cells' := cells + 1) (slots' := slots + n.toNat) (g.cnS.tail.cons (zcn_of g.rp.l0)) (g.rp.new hat z1 o1) (g.sf.new g.rp.B z1 o1) (by rw [zlen_new]; omega) (by rw [zsl_new]; omega)
  have q := k0.2 E p l e R s m args below meth c H' locs (cells + 1) (slots + n.toNat) n0 s0 Q ls g2 f
  rw [List.map_cons, zvR, zrf_ne g.rp.l0, ← hsz] at q
  exact q
theorem k_nwc {M : zM} {pc : Nat} {L : List (Nat × zV)} {st : List zV} {h : zH} {r : Option zV × zH} {n : Int} {h' : zH} (hd : decode M.2.1 pc = .ok (.newarray .char, 2)) (hw : Cond.arrayClass .char ∈ zGW) (e : z_nwA h 21 n = some h') (k0 : zK M (pc + 2) L ((2, (h.1.length : Int)) :: st) h' r) : zK M pc L ((0, n) :: st) h r := by
  unfold z_nwA at e
  obtain ⟨hn, e⟩ := z_io e
  cases e
  have k1 := k0.1
  rw [zlen_new, zsl_new] at k1
  refine ⟨⟨by omega, by omega⟩, fun E p l e R s m args below meth c H locs cells slots n0 s0 Q ls g f => ?_⟩
  obtain ⟨b1, b2, b3, b4⟩ := g.2.2.2.2.2.2.2
  have hn3 : zi32 n := g.cnS.head
  have hcl := zI_cl hn3
  have hsz : H.size = E.2.2.1 + h.1.length := g.rp.1
  have hcb : componentBytes (newarray.typeOf .char) ≤ 8 := by decide
  have h9 : n.toNat ≤ 100000 := by omega
  have hby : n.toNat * componentBytes (newarray.typeOf .char) ≤ 536870912 := Nat.le_trans (Nat.mul_le_mul h9 hcb) (by decide)
  rw [List.map_cons, zvI]
  refine va_newaK (N := n.toNat) (atype := .char) g.hx g.hb (g.hts _ hw) rfl hd rfl (by rw [zbl0 hn3]; omega) hcl hby (by omega) (by omega) rfl fun H' cA e1 z1 o1 hAr hNm => ?_
  have hA : cA = E.2.1 1 := by
    have h8 := (g.hK.2 1 _ rfl).2
    exact Option.some.inj (hNm.symm.trans h8)
  subst hA
  have hat : zat E (z_new h 21 n.toNat) h.1.length 21 n.toNat H' := by
    unfold zat
    rw [if_neg (by decide), ← hsz, e1]
    congr 2
    funext j
    show _ = zav E 21 (if h.1.length = h.1.length then 0 else _) (if h.1.length = h.1.length then 0 else _)
    rw [if_pos rfl, if_pos rfl]
    rfl
  have g2 := g.hp (st' := (2, (h.1.length : Int)) :: st) (cells' := cells + 1) (slots' := slots + n.toNat) (g.cnS.tail.cons (zcn_of g.rp.l0)) (g.rp.new hat z1 o1) (g.sf.new g.rp.B z1 o1) (by rw [zlen_new]; omega) (by rw [zsl_new]; omega)
  have q := k0.2 E p l e R s m args below meth c H' locs (cells + 1) (slots + n.toNat) n0 s0 Q ls g2 f
  rw [List.map_cons, zvR, zrf_ne g.rp.l0, ← hsz] at q
  exact q
theorem k_nwz {M : zM} {pc : Nat} {L : List (Nat × zV)} {st : List zV} {h : zH} {r : Option zV × zH} {n : Int} {h' : zH} (hd : decode M.2.1 pc = .ok (.newarray .boolean, 2)) (hw : Cond.arrayClass .boolean ∈ zGW) (e : z_nwA h 22 n = some h') (k0 : zK M (pc + 2) L ((2, (h.1.length : Int)) :: st) h' r) : zK M pc L ((0, n) :: st) h r := by
  unfold z_nwA at e
  obtain ⟨hn, e⟩ := z_io e
  cases e
  have k1 := k0.1
  rw [zlen_new, zsl_new] at k1
  refine ⟨⟨by omega, by omega⟩, fun E p l e R s m args below meth c H locs cells slots n0 s0 Q ls g f => ?_⟩
  obtain ⟨b1, b2, b3, b4⟩ := g.2.2.2.2.2.2.2
  have hn3 : zi32 n := g.cnS.head
  have hcl := zI_cl hn3
  have hsz : H.size = E.2.2.1 + h.1.length := g.rp.1
  have hcb : componentBytes (newarray.typeOf .boolean) ≤ 8 := by decide
  have h9 : n.toNat ≤ 100000 := by omega
  have hby : n.toNat * componentBytes (newarray.typeOf .boolean) ≤ 536870912 := Nat.le_trans (Nat.mul_le_mul h9 hcb) (by decide)
  rw [List.map_cons, zvI]
  refine va_newaK (N := n.toNat) (atype := .boolean) g.hx g.hb (g.hts _ hw) rfl hd rfl (by rw [zbl0 hn3]; omega) hcl hby (by omega) (by omega) rfl fun H' cA e1 z1 o1 hAr hNm => ?_
  have hA : cA = E.2.1 2 := by
    have h8 := (g.hK.2 2 _ rfl).2
    exact Option.some.inj (hNm.symm.trans h8)
  subst hA
  have hat : zat E (z_new h 22 n.toNat) h.1.length 22 n.toNat H' := by
    unfold zat
    rw [if_neg (by decide), ← hsz, e1]
    congr 2
    funext j
    show _ = zav E 22 (if h.1.length = h.1.length then 0 else _) (if h.1.length = h.1.length then 0 else _)
    rw [if_pos rfl, if_pos rfl]
    rfl
  have g2 := g.hp (st' := (2, (h.1.length : Int)) :: st) (cells' := cells + 1) (slots' := slots + n.toNat) (g.cnS.tail.cons (zcn_of g.rp.l0)) (g.rp.new hat z1 o1) (g.sf.new g.rp.B z1 o1) (by rw [zlen_new]; omega) (by rw [zsl_new]; omega)
  have q := k0.2 E p l e R s m args below meth c H' locs (cells + 1) (slots + n.toNat) n0 s0 Q ls g2 f
  rw [List.map_cons, zvR, zrf_ne g.rp.l0, ← hsz] at q
  exact q
theorem k_nwl {M : zM} {pc : Nat} {L : List (Nat × zV)} {st : List zV} {h : zH} {r : Option zV × zH} {n : Int} {h' : zH} (hd : decode M.2.1 pc = .ok (.newarray .long, 2)) (hw : Cond.arrayClass .long ∈ zGW) (e : z_nwA h 23 n = some h') (k0 : zK M (pc + 2) L ((2, (h.1.length : Int)) :: st) h' r) : zK M pc L ((0, n) :: st) h r := by
  unfold z_nwA at e
  obtain ⟨hn, e⟩ := z_io e
  cases e
  have k1 := k0.1
  rw [zlen_new, zsl_new] at k1
  refine ⟨⟨by omega, by omega⟩, fun E p l e R s m args below meth c H locs cells slots n0 s0 Q ls g f => ?_⟩
  obtain ⟨b1, b2, b3, b4⟩ := g.2.2.2.2.2.2.2
  have hn3 : zi32 n := g.cnS.head
  have hcl := zI_cl hn3
  have hsz : H.size = E.2.2.1 + h.1.length := g.rp.1
  have hcb : componentBytes (newarray.typeOf .long) ≤ 8 := by decide
  have h9 : n.toNat ≤ 100000 := by omega
  have hby : n.toNat * componentBytes (newarray.typeOf .long) ≤ 536870912 := Nat.le_trans (Nat.mul_le_mul h9 hcb) (by decide)
  rw [List.map_cons, zvI]
  refine va_newaK (N := n.toNat) (atype := .long) g.hx g.hb (g.hts _ hw) rfl hd rfl (by rw [zbl0 hn3]; omega) hcl hby (by omega) (by omega) rfl fun H' cA e1 z1 o1 hAr hNm => ?_
  have hA : cA = E.2.1 3 := by
    have h8 := (g.hK.2 3 _ rfl).2
    exact Option.some.inj (hNm.symm.trans h8)
  subst hA
  have hat : zat E (z_new h 23 n.toNat) h.1.length 23 n.toNat H' := by
    unfold zat
    rw [if_neg (by decide), ← hsz, e1]
    congr 2
    funext j
    show _ = zav E 23 (if h.1.length = h.1.length then 0 else _) (if h.1.length = h.1.length then 0 else _)
    rw [if_pos rfl, if_pos rfl]
    rfl
  have g2 := g.hp (st' := (2, (h.1.length : Int)) :: st) (cells' := cells + 1) (slots' := slots + n.toNat) (g.cnS.tail.cons (zcn_of g.rp.l0)) (g.rp.new hat z1 o1) (g.sf.new g.rp.B z1 o1) (by rw [zlen_new]; omega) (by rw [zsl_new]; omega)
  have q := k0.2 E p l e R s m args below meth c H' locs (cells + 1) (slots + n.toNat) n0 s0 Q ls g2 f
  rw [List.map_cons, zvR, zrf_ne g.rp.l0, ← hsz] at q
  exact q
theorem k_nwR {M : zM} {pc : Nat} {L : List (Nat × zV)} {st : List zV} {h : zH} {r : Option zV × zH} {n : Int} {i : Nat} {h' : zH} (hd : decode M.2.1 pc = .ok (.anewarray i, 3)) (hw : Cond.classLink M.1.cls i "ScopeLines$Rule" ∈ zGW) (e : z_nwA h 24 n = some h') (k0 : zK M (pc + 3) L ((2, (h.1.length : Int)) :: st) h' r) : zK M pc L ((0, n) :: st) h r := by
  unfold z_nwA at e
  obtain ⟨hn, e⟩ := z_io e
  cases e
  have k1 := k0.1
  rw [zlen_new, zsl_new] at k1
  refine ⟨⟨by omega, by omega⟩, fun E p l e R s m args below meth c H locs cells slots n0 s0 Q ls g f => ?_⟩
  obtain ⟨b1, b2, b3, b4⟩ := g.2.2.2.2.2.2.2
  have hn3 : zi32 n := g.cnS.head
  have hcl := zI_cl hn3
  have hsz : H.size = E.2.2.1 + h.1.length := g.rp.1
  rw [List.map_cons, zvI]
  refine W.anew g.hx g.hb g.own (g.hts _ hw) (va_AO.use g.hst.2.2.1.1) rfl hd rfl (by rw [zbl0 hn3]; omega) (by rw [hcl]; omega) (by omega) (by rw [hcl]; omega) fun cA kA comp f1 f2 f3 f4 => ?_
  rw [hcl]
  have hA : cA = E.2.1 4 := by
    obtain ⟨_, _, _, _, _, h8⟩ := (g.hK.2 4 _ rfl).2
    exact Option.some.inj (f1.symm.trans h8)
  subst hA
  generalize hH1 : H.push _ = H'
  have z1 : H'.size = H.size + 1 := by rw [← hH1, Array.size_push]
  have e1 : H'[H.size]? = some (arrV (E.2.1 4) n.toNat (fun _ => .null)) := by rw [← hH1, Array.getElem?_push_size, ← arrV_new]
  have o1 : ∀ q : Nat, q < H.size → H'[q]? = H[q]? := fun q hq => by rw [← hH1, Array.getElem?_push, if_neg (Nat.ne_of_lt hq)]
  have hat : zat E (z_new h 24 n.toNat) h.1.length 24 n.toNat H' := by
    unfold zat
    rw [if_neg (by decide), ← hsz, e1]
    congr 2
    funext j
    show _ = zav E 24 (if h.1.length = h.1.length then 0 else _) (if h.1.length = h.1.length then 0 else _)
    rw [if_pos rfl, if_pos rfl]
    rfl
  have g2 := g.hp (st' := (2, (h.1.length : Int)) :: st) (cells' := cells + 1) (slots' := slots + n.toNat) (g.cnS.tail.cons (zcn_of g.rp.l0)) (g.rp.new hat z1 o1) (g.sf.new g.rp.B z1 o1) (by rw [zlen_new]; omega) (by rw [zsl_new]; omega)
  have q := k0.2 E p l e R s m args below meth c H' locs (cells + 1) (slots + n.toNat) n0 s0 Q ls g2 f
  rw [List.map_cons, zvR, zrf_ne g.rp.l0, ← hsz] at q
  exact q
theorem k_nwL {M : zM} {pc : Nat} {L : List (Nat × zV)} {st : List zV} {h : zH} {r : Option zV × zH} {n : Int} {i : Nat} {h' : zH} (hd : decode M.2.1 pc = .ok (.anewarray i, 3)) (hw : Cond.classLink M.1.cls i "ScopeLines$Line" ∈ zGW) (e : z_nwA h 25 n = some h') (k0 : zK M (pc + 3) L ((2, (h.1.length : Int)) :: st) h' r) : zK M pc L ((0, n) :: st) h r := by
  unfold z_nwA at e
  obtain ⟨hn, e⟩ := z_io e
  cases e
  have k1 := k0.1
  rw [zlen_new, zsl_new] at k1
  refine ⟨⟨by omega, by omega⟩, fun E p l e R s m args below meth c H locs cells slots n0 s0 Q ls g f => ?_⟩
  obtain ⟨b1, b2, b3, b4⟩ := g.2.2.2.2.2.2.2
  have hn3 : zi32 n := g.cnS.head
  have hcl := zI_cl hn3
  have hsz : H.size = E.2.2.1 + h.1.length := g.rp.1
  rw [List.map_cons, zvI]
  refine W.anew g.hx g.hb g.own (g.hts _ hw) (va_AO.use g.hst.2.2.1.2) rfl hd rfl (by rw [zbl0 hn3]; omega) (by rw [hcl]; omega) (by omega) (by rw [hcl]; omega) fun cA kA comp f1 f2 f3 f4 => ?_
  rw [hcl]
  have hA : cA = E.2.1 5 := by
    obtain ⟨_, _, _, _, _, h8⟩ := (g.hK.2 5 _ rfl).2
    exact Option.some.inj (f1.symm.trans h8)
  subst hA
  generalize hH1 : H.push _ = H'
  have z1 : H'.size = H.size + 1 := by rw [← hH1, Array.size_push]
  have e1 : H'[H.size]? = some (arrV (E.2.1 5) n.toNat (fun _ => .null)) := by rw [← hH1, Array.getElem?_push_size, ← arrV_new]
  have o1 : ∀ q : Nat, q < H.size → H'[q]? = H[q]? := fun q hq => by rw [← hH1, Array.getElem?_push, if_neg (Nat.ne_of_lt hq)]
  have hat : zat E (z_new h 25 n.toNat) h.1.length 25 n.toNat H' := by
    unfold zat
    rw [if_neg (by decide), ← hsz, e1]
    congr 2
    funext j
    show _ = zav E 25 (if h.1.length = h.1.length then 0 else _) (if h.1.length = h.1.length then 0 else _)
    rw [if_pos rfl, if_pos rfl]
    rfl
  have g2 := g.hp (st' := (2, (h.1.length : Int)) :: st) (cells' := cells + 1) (slots' := slots + n.toNat) (g.cnS.tail.cons (zcn_of g.rp.l0)) (g.rp.new hat z1 o1) (g.sf.new g.rp.B z1 o1) (by rw [zlen_new]; omega) (by rw [zsl_new]; omega)
  have q := k0.2 E p l e R s m args below meth c H' locs (cells + 1) (slots + n.toNat) n0 s0 Q ls g2 f
  rw [List.map_cons, zvR, zrf_ne g.rp.l0, ← hsz] at q
  exact q
theorem k_rast24 {M : zM} {pc : Nat} {L : List (Nat × zV)} {st : List zV} {h : zH} {r : Option zV × zH} {c' x kr Nr : Nat} {Tr : u_T} {i : Int} {h' : zH} (hr : classes[kr]? = some ("ScopeLines$Rule", Tr, Nr)) (hr2 : kr < 20) (hd : decode M.2.1 pc = .ok (.aastore, 1)) (e : z_sR h 24 kr c' i x = some h') (k0 : zK M (pc + 1) L st h' r) : zK M pc L ((2, (x : Int)) :: (0, i) :: (2, (c' : Int)) :: st) h r := by
  obtain ⟨n, n2, hc, hx, hi, rfl⟩ := z_sR_of e
  refine ⟨k0.1, fun E p l e R s m args below meth c H locs cells slots n0 s0 Q ls g f => ?_⟩
  have hc0 := g.rp.c0 hc (by decide)
  have hx0 := g.rp.c0 hx (by omega)
  have ha := g.rp.arr hc (by decide) (by decide)
  have hi3 : zi32 i := g.cnS.tail.head
  obtain ⟨r', hr', cellV, q1, q2, q3, -⟩ := g.rp.ob hx hr2 hr 0 _ rfl
  have hcls := (g.hK.1 kr _ hr).2
  obtain ⟨kA, comp, u1, u2, u3, -⟩ := (g.hK.2 4 _ rfl).2
  have hcomp : comp = E.1.1 kr := Option.some.inj (u3.symm.trans hcls.1)
  subst hcomp
  obtain ⟨kC, hkC, hkC2⟩ := hcls.2
  rw [List.map_cons, List.map_cons, List.map_cons, zvR, zvR, zrf_ne hc0, zrf_ne hx0, zvI]
  refine W.aast g.hx g.hb ha (fun q h => by cases h) (fun h => by cases h) u1 u2 rfl hkC ⟨by rw [zbl0 hi3]; omega, by show _ < (arrV _ _ _).slots.size; rw [arrV_size, zI_cl hi3]; omega⟩ q1 (fun q h => by rw [q3] at h; cases h) (by rw [q2]; exact hkC) (by rw [q2]; exact va_assign ⟨hcls.1, kC, hkC, hkC2⟩) rfl rfl hd fun H' e1 z1 oq => ?_
  refine k0.2 E p l e R s m args below meth c H' _ cells slots n0 s0 Q ls (g.hp g.cnS.tail.tail.tail (g.rp.put hc (by decide) (fun a b hab => z_up_ne hab) (fun _ _ _ => rfl) ?_ (fun b => trivial) z1 oq) (g.sf.put hc0 z1 oq) g.2.2.2.2.2.2.2.1 g.2.2.2.2.2.2.2.2.1) f
  unfold zat
  rw [if_neg (by decide), e1, arrV_store, zI_cl hi3]
  congr 2
  funext b
  unfold updV
  by_cases hb : b = i.toNat
  · subst hb
    rw [if_pos rfl]
    show _ = zav E 24 (z_up h.2.1 c' i.toNat x c' i.toNat) _
    rw [z_up_eq]
    show _ = zrf E x
    rw [zrf_ne hx0]
  · rw [if_neg hb]
    show _ = zav E 24 (z_up h.2.1 c' i.toNat x c' b) _
    rw [z_up_nj hb]
theorem k_rast25 {M : zM} {pc : Nat} {L : List (Nat × zV)} {st : List zV} {h : zH} {r : Option zV × zH} {c' x kr Nr : Nat} {Tr : u_T} {i : Int} {h' : zH} (hr : classes[kr]? = some ("ScopeLines$Line", Tr, Nr)) (hr2 : kr < 20) (hd : decode M.2.1 pc = .ok (.aastore, 1)) (e : z_sR h 25 kr c' i x = some h') (k0 : zK M (pc + 1) L st h' r) : zK M pc L ((2, (x : Int)) :: (0, i) :: (2, (c' : Int)) :: st) h r := by
  obtain ⟨n, n2, hc, hx, hi, rfl⟩ := z_sR_of e
  refine ⟨k0.1, fun E p l e R s m args below meth c H locs cells slots n0 s0 Q ls g f => ?_⟩
  have hc0 := g.rp.c0 hc (by decide)
  have hx0 := g.rp.c0 hx (by omega)
  have ha := g.rp.arr hc (by decide) (by decide)
  have hi3 : zi32 i := g.cnS.tail.head
  obtain ⟨r', hr', cellV, q1, q2, q3, -⟩ := g.rp.ob hx hr2 hr 0 _ rfl
  have hcls := (g.hK.1 kr _ hr).2
  obtain ⟨kA, comp, u1, u2, u3, -⟩ := (g.hK.2 5 _ rfl).2
  have hcomp : comp = E.1.1 kr := Option.some.inj (u3.symm.trans hcls.1)
  subst hcomp
  obtain ⟨kC, hkC, hkC2⟩ := hcls.2
  rw [List.map_cons, List.map_cons, List.map_cons, zvR, zvR, zrf_ne hc0, zrf_ne hx0, zvI]
  refine W.aast g.hx g.hb ha (fun q h => by cases h) (fun h => by cases h) u1 u2 rfl hkC ⟨by rw [zbl0 hi3]; omega, by show _ < (arrV _ _ _).slots.size; rw [arrV_size, zI_cl hi3]; omega⟩ q1 (fun q h => by rw [q3] at h; cases h) (by rw [q2]; exact hkC) (by rw [q2]; exact va_assign ⟨hcls.1, kC, hkC, hkC2⟩) rfl rfl hd fun H' e1 z1 oq => ?_
  refine k0.2 E p l e R s m args below meth c H' _ cells slots n0 s0 Q ls (g.hp g.cnS.tail.tail.tail (g.rp.put hc (by decide) (fun a b hab => z_up_ne hab) (fun _ _ _ => rfl) ?_ (fun b => trivial) z1 oq) (g.sf.put hc0 z1 oq) g.2.2.2.2.2.2.2.1 g.2.2.2.2.2.2.2.2.1) f
  unfold zat
  rw [if_neg (by decide), e1, arrV_store, zI_cl hi3]
  congr 2
  funext b
  unfold updV
  by_cases hb : b = i.toNat
  · subst hb
    rw [if_pos rfl]
    show _ = zav E 25 (z_up h.2.1 c' i.toNat x c' i.toNat) _
    rw [z_up_eq]
    show _ = zrf E x
    rw [zrf_ne hx0]
  · rw [if_neg hb]
    show _ = zav E 25 (z_up h.2.1 c' i.toNat x c' b) _
    rw [z_up_nj hb]
theorem k_alen {M : zM} {pc : Nat} {L : List (Nat × zV)} {st : List zV} {h : zH} {r : Option zV × zH} {c' k : Nat} {ty : FieldType} {x : Int} (hk : 20 ≤ k ∧ k < 26) (hd : decode M.2.1 pc = .ok (.arraylength, 1)) (e : z_len h k c' = some x) (hx : x < 2147483648) (k0 : zK M (pc + 1) L ((0, x) :: st) h r) : zK M pc L ((2, (c' : Int)) :: st) h r := by
  obtain ⟨n, hc, rfl⟩ := z_len_of e
  refine ⟨k0.1, fun E p l e R s m args below meth c H locs cells slots n0 s0 Q ls g f => ?_⟩
  have hc0 := g.rp.c0 hc (by omega)
  have ha := g.rp.arr hc (by omega) (by omega)
  rw [List.map_cons, zvR, zrf_ne hc0]
  have hx3 : zi32 (n : Int) := by unfold zi32; omega
  have hsz : (arrV (E.2.1 (k - 20)) n fun j => zav E k (h.2.1 c' j) (h.2.2 c' j)).slots.size.toInt32 = Int32.ofInt (n : Int) := by
    rw [arrV_size]
    rfl
  have hq := zgo (st' := (0, (n : Int)) :: st) k0 g f (g.cnS.tail.cons hx3) rfl
  have key : ∀ (ty : FieldType), s.isArrayOf (arrV (E.2.1 (k - 20)) n fun j => zav E k (h.2.1 c' j) (h.2.2 c' j)) ty → W p l e R s m args below meth c H locs cells slots Q (F0 m pc ls (.ref (E.2.2.1 + c') :: st.map (zcv E))) := fun ty hty => W.alen g.hx g.hb ha hty hsz rfl rfl hd hq
  have hlt : k - 20 < (zTys E).length := by show k - 20 < 6; omega
  obtain ⟨q, hq⟩ : ∃ q, (zTys E)[k - 20]? = some q := ⟨_, List.getElem?_eq_getElem hlt⟩
  have hq1 : q.1 = E.2.1 (k - 20) := by
    have hk2 : k - 20 = 0 ∨ k - 20 = 1 ∨ k - 20 = 2 ∨ k - 20 = 3 ∨ k - 20 = 4 ∨ k - 20 = 5 := by omega
    rcases hk2 with h2 | h2 | h2 | h2 | h2 | h2 <;> (rw [h2] at hq ⊢; cases hq; rfl)
  have h8 := (g.hK.2 (k - 20) q hq).1 n (fun j => zav E k (h.2.1 c' j) (h.2.2 c' j))
  rw [hq1] at h8
  exact key _ h8
theorem k_sld {M : zM} {pc : Nat} {L : List (Nat × zV)} {st : List zV} {h : zH} {r : Option zV × zH} {i x : Int} (hd : decode M.2.1 pc = .ok (.iaload, 1)) (e : z_aI h 99 0 i = some x) (k0 : zK M (pc + 1) L ((0, x) :: st) h r) : zK M pc L ((0, i) :: (3, 0) :: st) h r := by
  obtain ⟨n, hc, hi, rfl⟩ := z_aI_of e
  refine ⟨k0.1, fun E p l e R s m args below meth c H locs cells slots n0 s0 Q ls g f => ?_⟩
  have hi3 : zi32 i := g.cnS.head
  have hn : n = E.2.2.2.2.2.1 := by
    have := hc.symm.trans g.rp.2.1
    simp at this
    exact this
  subst hn
  obtain ⟨-, -, -, h4, h5, h6, h7⟩ := g.hst
  have hx := h7 i.toNat (by omega)
  rw [g.rp.2.2.2.2.2.2 i.toNat (by omega)] at hx
  exact W.iald (v := .int (Int32.ofInt (h.2.2 0 i.toNat))) g.hx g.hb g.rp.2.2.2.2.1 h4 h5 (by rw [h6]; exact zin hi3 hi) (by rw [zI_cl hi3]; exact hx) rfl rfl hd (zgo k0 g f (g.cnS.tail.tail.cons (by have := g.rp.2.2.2.1 _ _ _ i.toNat hc; exact this)) rfl)
theorem k_slen {M : zM} {pc : Nat} {L : List (Nat × zV)} {st : List zV} {h : zH} {r : Option zV × zH} {x : Int} (hd : decode M.2.1 pc = .ok (.arraylength, 1)) (e : z_len h 99 0 = some x) (hx : x < 2147483648) (k0 : zK M (pc + 1) L ((0, x) :: st) h r) : zK M pc L ((3, 0) :: st) h r := by
  obtain ⟨n, hc, rfl⟩ := z_len_of e
  refine ⟨k0.1, fun E p l e R s m args below meth c H locs cells slots n0 s0 Q ls g f => ?_⟩
  have hn : n = E.2.2.2.2.2.1 := by
    have := hc.symm.trans g.rp.2.1
    simp at this
    exact this
  subst hn
  obtain ⟨-, -, -, h4, h5, h6, h7⟩ := g.hst
  have hx3 : zi32 ((E.2.2.2.2.2.1 : Nat) : Int) := by unfold zi32; omega
  exact W.alen (n := Int32.ofInt (E.2.2.2.2.2.1 : Nat)) g.hx g.hb g.rp.2.2.2.2.1 h4 (by rw [h6]; rfl) rfl rfl hd (zgo k0 g f (g.cnS.tail.cons hx3) rfl)
theorem k_ret {M : zM} {pc : Nat} {L : List (Nat × zV)} {st : List zV} {h : zH} {r : Option zV × zH} (hd : decode M.2.1 pc = .ok (.return_, 1)) (ht : M.2.2.2.1 = none) : zK M pc L [] h (none, h) :=
  ⟨⟨Nat.le_refl _, Nat.le_refl _⟩, fun E p l e R s m args below meth c H locs cells slots n0 s0 Q ls g f => f pc ls H locs cells slots hd ht (fun v hv => by cases hv) g.rp g.sf g.2.2.2.2.2.2.2.1 g.2.2.2.2.2.2.2.2.1⟩
theorem k_iret {M : zM} {pc : Nat} {L : List (Nat × zV)} {st : List zV} {h : zH} {r : Option zV × zH} {x : Int} (hd : decode M.2.1 pc = .ok (.ireturn, 1)) (ht : M.2.2.2.1 = some .int) : zK M pc L [(0, x)] h (some (0, x), h) :=
  ⟨⟨Nat.le_refl _, Nat.le_refl _⟩, fun E p l e R s m args below meth c H locs cells slots n0 s0 Q ls g f => f pc ls H locs cells slots hd (Or.inl ⟨rfl, ht⟩) (fun v hv => by cases hv; exact g.cnS.head) g.rp g.sf g.2.2.2.2.2.2.2.1 g.2.2.2.2.2.2.2.2.1⟩
theorem k_zret {M : zM} {pc : Nat} {L : List (Nat × zV)} {st : List zV} {h : zH} {r : Option zV × zH} {x : Int} (hd : decode M.2.1 pc = .ok (.ireturn, 1)) (ht : M.2.2.2.1 = some .boolean) (hx : x = 0 ∨ x = 1) : zK M pc L [(0, x)] h (some (0, x), h) :=
  ⟨⟨Nat.le_refl _, Nat.le_refl _⟩, fun E p l e R s m args below meth c H locs cells slots n0 s0 Q ls g f => f pc ls H locs cells slots hd (Or.inr (Or.inl ⟨rfl, ht, hx⟩)) (fun v hv => by cases hv; exact g.cnS.head) g.rp g.sf g.2.2.2.2.2.2.2.1 g.2.2.2.2.2.2.2.2.1⟩
theorem k_aret {M : zM} {pc : Nat} {L : List (Nat × zV)} {st : List zV} {h : zH} {r : Option zV × zH} {x : Nat} {C : String} (hd : decode M.2.1 pc = .ok (.areturn, 1)) (ht : M.2.2.2.1 = some (.object C)) : zK M pc L [(2, (x : Int))] h (some (2, (x : Int)), h) :=
  ⟨⟨Nat.le_refl _, Nat.le_refl _⟩, fun E p l e R s m args below meth c H locs cells slots n0 s0 Q ls g f => f pc ls H locs cells slots hd (Or.inr (Or.inr ⟨rfl, C, ht⟩)) (fun v hv => by cases hv; exact g.cnS.head) g.rp g.sf g.2.2.2.2.2.2.2.1 g.2.2.2.2.2.2.2.2.1⟩
def zargs : Nat → List zV → List (Nat × zV)
  | _, [] => []
  | i, v :: vs => (i, v) :: zargs (if v.1 = 1 then i + 2 else i + 1) vs
theorem zcat2 (E : zE) (v : zV) : ((zcv E v).category = 2) ↔ v.1 = 1 := by
  have := zcat E v
  constructor
  · intro h
    rw [h] at this
    simpa using this.symm
  · intro h
    rw [h] at this
    simpa using this
theorem zargs_map (E : zE) : ∀ (i : Nat) (as : List zV), lv_args i (as.map (zcv E)) = (zargs i as).map fun q => (q.1, zcv E q.2)
  | i, [] => rfl
  | i, v :: vs => by
    show (i, zcv E v) :: lv_args (if (zcv E v).category = 2 then i + 2 else i + 1) (vs.map (zcv E)) = (i, zcv E v) :: (zargs (if v.1 = 1 then i + 2 else i + 1) vs).map _
    congr 1
    rw [zargs_map E]
    simp only [zcat2]
theorem zargs_cn : ∀ (i : Nat) (as : List zV), zcnS as → zcnL (zargs i as)
  | i, [], _ => fun q h => by cases h
  | i, v :: vs, ha => fun q h => by
    rcases List.mem_cons.mp h with rfl | h
    · exact ha.head
    · exact zargs_cn _ vs ha.tail q h
def zwd (as : List zV) : Nat := (as.map fun v => if v.1 = 1 then 2 else 1).sum
theorem zlen_sl (E : zE) : ∀ as : List zV, (lg_sl (as.map (zcv E))).length = zwd as
  | [] => rfl
  | v :: vs => by
    show ((if (zcv E v).category = 2 then _ else _) ++ lg_sl (vs.map (zcv E))).length = (if v.1 = 1 then 2 else 1) + zwd vs
    rw [List.length_append, zlen_sl E vs]
    congr 1
    by_cases h : v.1 = 1
    · rw [if_pos h, if_pos ((zcat2 E v).mpr h)]
      rfl
    · rw [if_neg h, if_neg (fun q => h ((zcat2 E v).mp q))]
      rfl
theorem zMt.of {M : zM} {as : List zV} {h : zH} {r : Option zV × zH} (hpl : plainName M.1.cls = true) (hwd : zwd as ≤ M.2.2.1) (k : zK M 0 (zargs 0 as) [] h r) : zMt M as h r := by
  refine ⟨k.1, fun hcn E l => ?_⟩
  refine Met.ofW (cc := M.2.1) (maxL := M.2.2.1) (ret := M.2.2.2.1) hpl rfl ?_
  intro p e s m args below meth c s₁ B hml hv
  obtain ⟨rfl, hR, hS⟩ := hv
  have hts := atoms_spec (ws := zws M) B.pre
  have hl := lv_entry (as.map (zcv E)) (n := M.2.2.1) (by rw [zlen_sl]; exact hwd)
  rw [lg_entry_eq]
  generalize (lg_sl (as.map (zcv E)) ++ List.replicate (M.2.2.1 - (lg_sl (as.map (zcv E))).length) Slot.unset).toArray = ls at hl ⊢
  rw [zargs_map] at hl
  have hnm : meth.name = M.1.name := (name_of_methodNamed B.named B.method).1
  refine k.2 E p l e _ s m _ below meth c s.heap [] 0 0 h.1.length (zsl h) _ ls ⟨⟨B.exec, B.bytes, B.returns, hml, findClass_of_methodNamed B.named, fun w hw => hts w (List.mem_cons_of_mem _ hw), hS, B.notSynchronized, hnm⟩, ⟨Nat.le_refl _, Nat.le_refl _⟩, hl, zargs_cn 0 as hcn, (fun v hv => by cases hv), hR, ⟨fun q _ => rfl, (fun l hl => by cases hl), Nat.le_refl _⟩, Nat.zero_add _, Nat.zero_add _, ?_, ?_⟩ ?_
  · show r.2.1.length ≤ r.2.1.length - h.1.length + h.1.length
    have := k.1.1
    omega
  · show zsl r.2 ≤ zsl r.2 - zsl h + zsl h
    have := k.1.2
    omega
  intro pc ls' H' locs' cells' slots' hd hrt hcnr hR' hS' e1 e2
  have e3 : cells' = r.2.1.length - h.1.length := by omega
  have e4 : slots' = zsl r.2 - zsl h := by omega
  subst e3
  subst e4
  have hlocks := B.notSynchronized
  have hret := B.returns
  have hq : ∀ t : State, t.heap = H' → s.WarmedH t.vm → zQc E r (as.map (zcv E)).toArray s (.returned (r.1.map (zcv E))) t := fun t ht hW => ⟨rfl, hcnr, by rw [ht]; exact hR', fun q hq => by rw [ht]; exact hS'.1 q hq, by rw [ht]; exact hS'.2.2⟩
  obtain ⟨o, h'⟩ := r
  cases o with
  | none => exact W.vret B.exec B.bytes (hret.trans hrt) hq hS'.2.1 hd
  | some v =>
    obtain ⟨t, x⟩ := v
    rcases hrt with ⟨rfl, hty⟩ | ⟨rfl, hty, hx⟩ | ⟨rfl, C, hty⟩
    · exact W.iret B.exec B.bytes (hret.trans hty) hq hS'.2.1 hd
    · exact W.zret (ty := .boolean) B.exec B.bytes (hret.trans hty) (by rcases hx with h | h <;> (cases h; rfl)) hq hS'.2.1 hd
    · refine W.aret (rt := .object C) (v := zcv E (2, x)) B.exec B.bytes (hret.trans hty) (Or.inl ⟨C, rfl⟩) ?_ hq hS'.2.1 hd
      show zrf E x.toNat = .null ∨ ∃ a, zrf E x.toNat = .ref a
      unfold zrf
      split
      · exact Or.inl rfl
      · exact Or.inr ⟨_, rfl⟩
/-- what a call needs of the tables; kind 0: a virtual one of an object of the class number kc, 1: static, 2: a constructor -/
def zCw (M M' : zM) (i kind kc n : Nat) : Prop :=
  (Cond.methodLink M.1.cls i M'.1 ∈ zGW ∨ ∃ host, Cond.methodLinkNest M.1.cls i M'.1 host ∈ zNW) ∧ Cond.code M'.1 M'.2.1 M'.2.2.1 M'.2.2.2.1 ∈ zGW ∧ Cond.initialized M'.1.cls ∈ zGW ∧ (M'.1.cls ≠ "java/lang/invoke/MethodHandle" ∧ M'.1.cls ≠ "java/lang/invoke/VarHandle" ∧ (parseMethodDescriptor M'.1.desc).map (fun d => d.parameters.length) = some n) ∧
  (M'.2.2.2.2.1 + 1 ≤ M.2.2.2.2.1 ∧ 8 + (M'.2.2.1 + 11) + M'.2.2.2.2.2 ≤ M.2.2.2.2.2) ∧
  (kind = 0 → Cond.instanceMethod M'.1 ∈ zGW ∧ Cond.selects M'.1.cls M'.1 M'.1 ∈ zGW ∧ kc < 20 ∧ ∃ T N, classes[kc]? = some (M'.1.cls, T, N)) ∧ (kind = 1 → Cond.static M'.1 ∈ zGW) ∧ (kind = 2 → M'.1.name = "<init>" ∧ M'.2.2.2.1 = none ∧ Cond.instanceMethod M'.1 ∈ zGW)
theorem zblind (E : zE) (as : List zV) (h : zH) : FrameBlind (zPc E as h) := fun a U g mk q => ⟨q.1, q.2.1, by
  obtain ⟨-, -, h1, h2, ⟨h3, h4⟩, h5⟩ := q
  exact ⟨va_K.moved (u := U) (U := U.calling g mk a) (Vm.Alike.refl U.vm) h1, fun w hw => va_Nw.same (u := U) (U := U.calling g mk a) (by have := zNW_nest w hw; cases w <;> first | rfl | cases this) rfl (h2 w hw), ⟨h3.moved (Vm.Alike.refl U.vm), h4.moved (Vm.Alike.refl U.vm)⟩, State.isArrayOf_alike (Vm.Alike.refl U.vm) h5.1, h5.2⟩⟩
theorem zcatS (E : zE) (rest : List zV) (h : zwd rest ≤ 8) : ((rest.map (zcv E)).map fun v => v.category).sum ≤ 8 := by
  have : ((rest.map (zcv E)).map fun v => v.category) = rest.map fun v => if v.1 = 1 then 2 else 1 := by
    rw [List.map_map]
    apply List.map_congr_left
    intro v _
    show (zcv E v).category = _
    by_cases hv : v.1 = 1
    · rw [if_pos hv]
      exact (zcat2 E v).mpr hv
    · rw [if_neg hv]
      rcases lv_cat (zcv E v) with h1 | h1
      · exact h1
      · exact absurd ((zcat2 E v).mp h1) hv
  rw [this]
  exact h
/-- behind a call -/
theorem zbk {M : zM} {E : zE} {p : Program} {l : Launch} {e : Env} {R : Room} {s : State} {m : MethodId} {args : Array Value} {below : List Frame} {meth : Method} {c : Code} {L : List (Nat × zV)} {st rest : List zV} {h : zH} {H : Heap} {locs : List Loc} {cells slots n0 s0 : Nat} {Q : State → Prop} {ls : Array Slot} {r r1 : Option zV × zH} {pc : Nat} {stv : List Value} {a : Array Value}
    (k : zK M (pc + 3) L (r1.1.toList ++ rest) r1.2 r) (g : zG M E p R s m args meth c L st h H locs cells slots n0 s0 ls r) (f : zF M E p l e R s m args below meth c n0 s0 Q r) (hm : h.1.length ≤ r1.2.1.length ∧ zsl h ≤ zsl r1.2) (hrest : zcnS rest)
    (hr : va_Run p l e R s m args below meth c H locs cells slots (r1.2.1.length - h.1.length) (zsl r1.2 - zsl h) (F0 m pc ls stv) (rest.map (zcv E)) (zQc E r1 a) (fun q => E.2.2.1 < q)) : W p l e R s m args below meth c H locs cells slots Q (F0 m pc ls stv) := by
  intro T hT X
  obtain ⟨v, st₀, t, T', L', h0, X', hL, e1, e2, ⟨hv, hcn, hRp, hlow, hsz⟩, st2⟩ := hr T hT X
  obtain ⟨b1, b2, b3, b4⟩ := g.2.2.2.2.2.2.2
  have hv : v = r1.1.map (zcv E) := Outcome.returned.inj hv
  subst hv
  have hcs : zcnS (r1.1.toList ++ rest) := by
    intro w hw
    rcases List.mem_append.mp hw with hw | hw
    · exact hcn w (by simpa using hw)
    · exact hrest w hw
  have g2 := g.hp (h' := r1.2) (H' := T'.heap) (locs' := locs ++ L') (cells' := cells + (r1.2.1.length - h.1.length)) (slots' := slots + (zsl r1.2 - zsl h)) hcs (by rw [e1]; exact hRp)
    ⟨fun q hq => by rw [e1, hlow q hq, h0]; exact g.sf.1 q hq, fun x hx => by
      rcases List.mem_append.mp hx with hx | hx
      · exact g.sf.2.1 x hx
      · exact hL x hx, by rw [e1]; exact Nat.le_trans g.sf.2.2 (by rw [← h0]; exact hsz)⟩ (by omega) (by omega)
  obtain ⟨t2, a1, a2⟩ := k.2 E p l e R s m args below meth c T'.heap _ _ _ n0 s0 Q ls g2 f T' rfl X'
  refine ⟨t2, st2 t2 ?_, a2⟩
  have e9 : (r1.1.toList ++ rest).map (zcv E) = (r1.1.map (zcv E)).toList ++ rest.map (zcv E) := by
    rw [List.map_append]
    congr 1
    cases r1.1 <;> rfl
  rw [e9] at a1
  exact a1
theorem k_callV {M M' : zM} {pc : Nat} {L : List (Nat × zV)} {rest as : List zV} {h : zH} {r r1 : Option zV × zH} {i kc n c' n2 : Nat} (hd : decode M.2.1 pc = .ok (.invokevirtual i, 3)) (hw : zCw M M' i 0 kc n) (hn : as.length = n) (hr8 : zwd rest ≤ 8) (hc : h.1[c']? = some (kc, n2)) (hM : zMt M' ((2, (c' : Int)) :: as) h r1) (k : zK M (pc + 3) L (r1.1.toList ++ rest) r1.2 r) : zK M pc L (as.reverse ++ (2, (c' : Int)) :: rest) h r := by
  obtain ⟨hlink, hcode, hini, hd3, hroom, hk0, hk1, hk2⟩ := hw
  have k1 := k.1
  refine ⟨⟨Nat.le_trans hM.1.1 k1.1, Nat.le_trans hM.1.2 k1.2⟩, fun E p l e R s m args below meth c H locs cells slots n0 s0 Q ls g f => ?_⟩
  obtain ⟨b1, b2, b3, b4⟩ := g.2.2.2.2.2.2.2
  have hro := hM.1
  have hfr : M'.2.2.2.2.1 + 1 ≤ R.frames ∧ 8 + (M'.2.2.1 + 11) + M'.2.2.2.2.2 ≤ R.locals := ⟨Nat.le_trans hroom.1 g.2.1.1, Nat.le_trans hroom.2 g.2.1.2⟩
  have hf : cells + (r1.2.1.length - h.1.length) ≤ R.cells ∧ slots + (zsl r1.2 - zsl h) ≤ R.slots := by omega
  have hS : CallFix p m c M.2.1 M.2.2.1 s args zGW M.1.cls := ⟨g.hx, g.hb, g.hml, g.own, g.hts⟩
  obtain ⟨hins, hsel, hkc, T, N, hcl⟩ := hk0 rfl
  have hc0 := g.rp.c0 hc (by omega)
  have hcnr : zcnS ((2, (c' : Int)) :: rest) := fun w hw => g.cnS w (List.mem_append_right _ hw)
  have hcna : zcnS ((2, (c' : Int)) :: as) := by
    intro w hw
    rcases List.mem_cons.mp hw with rfl | hw
    · exact hcnr.head
    · exact g.cnS w (List.mem_append_left _ (List.mem_reverse.mpr hw))
  have hMet := hM.2 hcna E l
  have hstk : (as.reverse ++ (2, (c' : Int)) :: rest).map (zcv E) = (as.map (zcv E)).reverse ++ .ref (E.2.2.1 + c') :: rest.map (zcv E) := by
    rw [List.map_append, List.map_cons, zvR, zrf_ne hc0, List.map_reverse]
  rw [hstk]
  have hav : ((2, (c' : Int)) :: as).map (zcv E) = .ref (E.2.2.1 + c') :: as.map (zcv E) := by rw [List.map_cons, zvR, zrf_ne hc0]
  have hp : PreV s H M'.1.cls (E.2.2.1 + c') (zPc E ((2, (c' : Int)) :: as) h) (as.map (zcv E)) := ⟨zblind _ _ _, va_recv (q0 := 0) g.hK (g.rp.ob hc hkc hcl) hcl rfl, fun U hU hW => ⟨by rw [hav], by rw [hU]; exact g.rp, g.hst.moved hW⟩⟩
  refine zbk (a := (Value.ref (E.2.2.1 + c') :: as.map (zcv E)).toArray) k g f hM.1 hcnr.tail ?_
  rcases hlink with hlink | ⟨host, hlink⟩
  · exact va_runV hS hMet ⟨callB_of n g.hts (zGood hcode) rfl rfl rfl (g.hts _ hini) (g.hts _ hlink) hd3 hfr, g.hts _ hins, g.hts _ hsel⟩ hp rfl (by rw [List.length_map]; exact hn) g.lv.1 rfl (lv_room (zcatS E rest hr8)) hd hf
  · exact va_runVN hS hMet ⟨va_cnB n g.hts (zGood hcode) rfl rfl rfl (g.hst.2.1 _ hlink) (g.hts _ hini) hd3 hfr, g.hts _ hins, g.hts _ hsel⟩ hp rfl (by rw [List.length_map]; exact hn) g.lv.1 rfl (lv_room (zcatS E rest hr8)) hd hf
theorem k_callS {M M' : zM} {pc : Nat} {L : List (Nat × zV)} {rest as : List zV} {h : zH} {r r1 : Option zV × zH} {i n : Nat} (hd : decode M.2.1 pc = .ok (.invokestatic i, 3)) (hw : zCw M M' i 1 0 n) (hn : as.length = n) (hr8 : zwd rest ≤ 8) (hM : zMt M' as h r1) (k : zK M (pc + 3) L (r1.1.toList ++ rest) r1.2 r) : zK M pc L (as.reverse ++ rest) h r := by
  obtain ⟨hlink, hcode, hini, hd3, hroom, hk0, hk1, hk2⟩ := hw
  have k1 := k.1
  refine ⟨⟨Nat.le_trans hM.1.1 k1.1, Nat.le_trans hM.1.2 k1.2⟩, fun E p l e R s m args below meth c H locs cells slots n0 s0 Q ls g f => ?_⟩
  obtain ⟨b1, b2, b3, b4⟩ := g.2.2.2.2.2.2.2
  have hro := hM.1
  have hfr : M'.2.2.2.2.1 + 1 ≤ R.frames ∧ 8 + (M'.2.2.1 + 11) + M'.2.2.2.2.2 ≤ R.locals := ⟨Nat.le_trans hroom.1 g.2.1.1, Nat.le_trans hroom.2 g.2.1.2⟩
  have hf : cells + (r1.2.1.length - h.1.length) ≤ R.cells ∧ slots + (zsl r1.2 - zsl h) ≤ R.slots := by omega
  have hS : CallFix p m c M.2.1 M.2.2.1 s args zGW M.1.cls := ⟨g.hx, g.hb, g.hml, g.own, g.hts⟩
  have hstat := hk1 rfl
  have hcna : zcnS as := fun w hw => g.cnS w (List.mem_append_left _ (List.mem_reverse.mpr hw))
  have hMet := hM.2 hcna E l
  have hstk : (as.reverse ++ rest).map (zcv E) = (as.map (zcv E)).reverse ++ rest.map (zcv E) := by rw [List.map_append, List.map_reverse]
  rw [hstk]
  have hp : PreS s H (zPc E as h) (as.map (zcv E)) := ⟨zblind _ _ _, fun U hU hW => ⟨rfl, by rw [hU]; exact g.rp, g.hst.moved hW⟩⟩
  refine zbk (a := (as.map (zcv E)).toArray) k g f hM.1 (fun w hw => g.cnS w (List.mem_append_right _ hw)) ?_
  rcases hlink with hlink | ⟨host, hlink⟩
  · exact va_runS hS hMet ⟨callB_of n g.hts (zGood hcode) rfl rfl rfl (g.hts _ hini) (g.hts _ hlink) hd3 hfr, g.hts _ hstat⟩ hp rfl (by rw [List.length_map]; exact hn) g.lv.1 rfl (lv_room (zcatS E rest hr8)) hd hf
  · exact va_runSN hS hMet ⟨va_cnB n g.hts (zGood hcode) rfl rfl rfl (g.hst.2.1 _ hlink) (g.hts _ hini) hd3 hfr, g.hts _ hstat, trivial⟩ hp rfl (by rw [List.length_map]; exact hn) g.lv.1 rfl (lv_room (zcatS E rest hr8)) hd hf
theorem k_callI {M M' : zM} {pc : Nat} {L : List (Nat × zV)} {rest as : List zV} {h : zH} {r r1 : Option zV × zH} {i n c' : Nat} (hd : decode M.2.1 pc = .ok (.invokespecial i, 3)) (hw : zCw M M' i 2 0 n) (hn : as.length = n) (hr8 : zwd rest ≤ 8) (hM : zMt M' ((2, (c' : Int)) :: as) h r1) (k : zK M (pc + 3) L (r1.1.toList ++ rest) r1.2 r) : zK M pc L (as.reverse ++ (2, (c' : Int)) :: rest) h r := by
  obtain ⟨hlink, hcode, hini, hd3, hroom, hk0, hk1, hk2⟩ := hw
  have k1 := k.1
  refine ⟨⟨Nat.le_trans hM.1.1 k1.1, Nat.le_trans hM.1.2 k1.2⟩, fun E p l e R s m args below meth c H locs cells slots n0 s0 Q ls g f => ?_⟩
  obtain ⟨b1, b2, b3, b4⟩ := g.2.2.2.2.2.2.2
  have hro := hM.1
  have hfr : M'.2.2.2.2.1 + 1 ≤ R.frames ∧ 8 + (M'.2.2.1 + 11) + M'.2.2.2.2.2 ≤ R.locals := ⟨Nat.le_trans hroom.1 g.2.1.1, Nat.le_trans hroom.2 g.2.1.2⟩
  have hf : cells + (r1.2.1.length - h.1.length) ≤ R.cells ∧ slots + (zsl r1.2 - zsl h) ≤ R.slots := by omega
  have hS : CallFix p m c M.2.1 M.2.2.1 s args zGW M.1.cls := ⟨g.hx, g.hb, g.hml, g.own, g.hts⟩
  obtain ⟨hnm, hret, hins⟩ := hk2 rfl
  have hcnr : zcnS ((2, (c' : Int)) :: rest) := fun w hw => g.cnS w (List.mem_append_right _ hw)
  have hc0 := zcn_ne hcnr.head
  have hcna : zcnS ((2, (c' : Int)) :: as) := by
    intro w hw
    rcases List.mem_cons.mp hw with rfl | hw
    · exact hcnr.head
    · exact g.cnS w (List.mem_append_left _ (List.mem_reverse.mpr hw))
  have hMet := hM.2 hcna E l
  have hstk : (as.reverse ++ (2, (c' : Int)) :: rest).map (zcv E) = (as.map (zcv E)).reverse ++ .ref (E.2.2.1 + c') :: rest.map (zcv E) := by
    rw [List.map_append, List.map_cons, zvR, zrf_ne hc0, List.map_reverse]
  rw [hstk]
  have hav : ((2, (c' : Int)) :: as).map (zcv E) = .ref (E.2.2.1 + c') :: as.map (zcv E) := by rw [List.map_cons, zvR, zrf_ne hc0]
  have hp : PreS s H (zPc E ((2, (c' : Int)) :: as) h) (.ref (E.2.2.1 + c') :: as.map (zcv E)) := ⟨zblind _ _ _, fun U hU hW => ⟨by rw [hav], by rw [hU]; exact g.rp, g.hst.moved hW⟩⟩
  have hG := zGood hcode
  have hw2 : zws M' = Cond.code M'.1 M'.2.1 M'.2.2.1 none :: zGW := by unfold zws; rw [hret]
  refine zbk (a := (Value.ref (E.2.2.1 + c') :: as.map (zcv E)).toArray) k g f hM.1 hcnr.tail ?_
  rcases hlink with hlink | ⟨host, hlink⟩
  · exact va_runI hS hMet ⟨callB_of n g.hts hG hw2 rfl rfl (g.hts _ hini) (g.hts _ hlink) hd3 hfr, hnm, g.hts _ hins⟩ hp rfl (by rw [List.length_map]; exact hn) g.lv.1 rfl (lv_room (zcatS E rest hr8)) hd hf
  · exact va_runIN hS hMet ⟨va_cnB n g.hts hG hw2 rfl rfl (g.hst.2.1 _ hlink) (g.hts _ hini) hd3 hfr, hnm, g.hts _ hins⟩ hp rfl (by rw [List.length_map]; exact hn) g.lv.1 rfl (lv_room (zcatS E rest hr8)) hd hf
theorem k_obj {M : zM} {pc : Nat} {L : List (Nat × zV)} {st : List zV} {h : zH} {r : Option zV × zH} {i c' : Nat} (hd : decode M.2.1 pc = .ok (.invokespecial i, 3)) (h1 : Cond.methodLink M.1.cls i objectInit ∈ zGW) (h2 : Cond.instanceMethod objectInit ∈ zGW) (h3 : Cond.code objectInit ⟨#[0xb1]⟩ 1 none ∈ zGW) (hfr : 1 ≤ M.2.2.2.2.1 ∧ 20 ≤ M.2.2.2.2.2) (hr8 : zwd st ≤ 8) (k0 : zK M (pc + 3) L st h r) : zK M pc L ((2, (c' : Int)) :: st) h r := by
  refine ⟨k0.1, fun E p l e R s m args below meth c H locs cells slots n0 s0 Q ls g f => ?_⟩
  have hc := zcn_ne g.cnS.head
  rw [List.map_cons, zvR, zrf_ne hc]
  have h8 := lv_room (m := m) (pc := pc) (ls := ls) (rest := .ref (E.2.2.1 + c') :: st.map (zcv E)) (zcatS E st hr8)
  exact W.objInit g.hx g.hb g.own (g.hts _ h1) (g.hts _ h2) (g.hts _ h3) rfl (by rw [g.hml]; exact g.lv.1) rfl hd (Nat.le_trans hfr.1 g.2.1.1) (by have := Nat.le_trans hfr.2 g.2.1.2; omega) (zgo k0 g f g.cnS.tail rfl)
theorem k_max {M : zM} {pc : Nat} {L : List (Nat × zV)} {st : List zV} {h : zH} {r : Option zV × zH} {i : Nat} {x y : Int} (hd : decode M.2.1 pc = .ok (.invokestatic i, 3)) (h1 : Cond.methodLink M.1.cls i Lib.Math.max.name ∈ zGW) (h2 : Cond.static Lib.Math.max.name ∈ zGW) (h3 : Cond.initialized "java/lang/Math" ∈ zGW) (h4 : Cond.code Lib.Math.max.name Lib.Math.max.code 2 (some .int) ∈ zGW) (hfr : 1 ≤ M.2.2.2.2.1 ∧ 21 ≤ M.2.2.2.2.2) (hr8 : zwd st ≤ 8) (k0 : zK M (pc + 3) L ((0, z_max x y) :: st) h r) : zK M pc L ((0, y) :: (0, x) :: st) h r := by
  refine ⟨k0.1, fun E p l e R s m args below meth c H locs cells slots n0 s0 Q ls g f => ?_⟩
  obtain ⟨b1, b2, b3, b4⟩ := g.2.2.2.2.2.2.2
  have k1 := k0.1
  have h8 := zcatS E st hr8
  have hl := Nat.le_trans hfr.2 g.2.1.2
  refine va_mmax (x := Int32.ofInt x) (y := Int32.ofInt y) g.hx g.hb (g.hml.trans g.lv.1.symm) g.own (g.hts _ h1) (g.hts _ h2) (g.hts _ h3) (g.hts _ h4) (Nat.le_trans hfr.1 g.2.1.1) (by omega) (by omega) (by omega) hd (zgo k0 g f (g.cnS.tail.tail.cons ?_) ?_)
  · unfold z_max
    split
    · exact g.cnS.head
    · exact g.cnS.tail.head
  · rw [List.map_cons, zvI]
    congr 2
    unfold z_max
    by_cases hxy : x < y
    · rw [if_pos hxy, if_pos ((zI_lt g.cnS.tail.head g.cnS.head).mpr hxy)]
    · rw [if_neg hxy, if_neg (fun q => hxy ((zI_lt g.cnS.tail.head g.cnS.head).mp q))]
theorem k_min {M : zM} {pc : Nat} {L : List (Nat × zV)} {st : List zV} {h : zH} {r : Option zV × zH} {i : Nat} {x y : Int} (hd : decode M.2.1 pc = .ok (.invokestatic i, 3)) (h1 : Cond.methodLink M.1.cls i Lib.Math.min.name ∈ zGW) (h2 : Cond.static Lib.Math.min.name ∈ zGW) (h3 : Cond.initialized "java/lang/Math" ∈ zGW) (h4 : Cond.code Lib.Math.min.name Lib.Math.min.code 2 (some .int) ∈ zGW) (hfr : 1 ≤ M.2.2.2.2.1 ∧ 21 ≤ M.2.2.2.2.2) (hr8 : zwd st ≤ 8) (k0 : zK M (pc + 3) L ((0, z_min x y) :: st) h r) : zK M pc L ((0, y) :: (0, x) :: st) h r := by
  refine ⟨k0.1, fun E p l e R s m args below meth c H locs cells slots n0 s0 Q ls g f => ?_⟩
  obtain ⟨b1, b2, b3, b4⟩ := g.2.2.2.2.2.2.2
  have k1 := k0.1
  have h8 := zcatS E st hr8
  have hl := Nat.le_trans hfr.2 g.2.1.2
  refine va_mmin (x := Int32.ofInt x) (y := Int32.ofInt y) g.hx g.hb (g.hml.trans g.lv.1.symm) g.own (g.hts _ h1) (g.hts _ h2) (g.hts _ h3) (g.hts _ h4) (Nat.le_trans hfr.1 g.2.1.1) (by omega) (by omega) (by omega) hd (zgo k0 g f (g.cnS.tail.tail.cons ?_) ?_)
  · unfold z_min
    split
    · exact g.cnS.head
    · exact g.cnS.tail.head
  · rw [List.map_cons, zvI]
    congr 2
    unfold z_min
    by_cases hxy : y < x
    · rw [if_pos hxy, if_pos ((zI_lt g.cnS.head g.cnS.tail.head).mpr hxy)]
    · rw [if_neg hxy, if_neg (fun q => hxy ((zI_lt g.cnS.head g.cnS.tail.head).mp q))]
theorem k_tabO {M : zM} {pc : Nat} {L : List (Nat × zV)} {st : List zV} {h : zH} {r : Option zV × zH} {x dflt lo hi : Int} {offs : Array Int} {len tgt : Nat} (hd : decode M.2.1 pc = .ok (.tableswitch dflt lo hi offs, len)) (hx : x < lo ∨ hi < x) (ht : (pc : Int) + dflt = (tgt : Int)) (k : zK M tgt L st h r) : zK M pc L ((0, x) :: st) h r :=
  ⟨k.1, fun E p l e R s m args below meth c H locs cells slots n0 s0 Q ls g f => lv_tableOut (x := Int32.ofInt x) g.hx g.hb hd (by rw [zI_to g.cnS.head]; exact hx) ht (zgo k g f g.cnS.tail rfl)⟩
theorem k_tabI {M : zM} {pc : Nat} {L : List (Nat × zV)} {st : List zV} {h : zH} {r : Option zV × zH} {x dflt lo hi off : Int} {offs : Array Int} {len tgt : Nat} (hd : decode M.2.1 pc = .ok (.tableswitch dflt lo hi offs, len)) (h1 : ¬ x < lo) (h2 : ¬ hi < x) (ho : offs[(x - lo).toNat]? = some off) (ht : (pc : Int) + off = (tgt : Int)) (k : zK M tgt L st h r) : zK M pc L ((0, x) :: st) h r :=
  ⟨k.1, fun E p l e R s m args below meth c H locs cells slots n0 s0 Q ls g f => lv_tableIn (x := Int32.ofInt x) g.hx g.hb hd (by rw [zI_to g.cnS.head]; exact h1) (by rw [zI_to g.cnS.head]; exact h2) (by rw [zI_to g.cnS.head]; exact ho) ht (zgo k g f g.cnS.tail rfl)⟩
theorem k_look {M : zM} {pc : Nat} {L : List (Nat × zV)} {st : List zV} {h : zH} {r : Option zV × zH} {x dflt off : Int} {ps : Array (Int × Int)} {len tgt : Nat} (hd : decode M.2.1 pc = .ok (.lookupswitch dflt ps, len)) (hp : (ps.toList.zip (ps.toList.drop 1)).all (fun (a, next) => a.1 < next.1) = true) (ho : Op.lookupswitch.offset ps.toList dflt x = off) (ht : (pc : Int) + off = (tgt : Int)) (k : zK M tgt L st h r) : zK M pc L ((0, x) :: st) h r :=
  ⟨k.1, fun E p l e R s m args below meth c H locs cells slots n0 s0 Q ls g f => lv_lookup (x := Int32.ofInt x) g.hx g.hb hd hp (by rw [zI_to g.cnS.head]; exact ho) ht (zgo k g f g.cnS.tail rfl)⟩
theorem k_lcmp {M : zM} {pc : Nat} {L : List (Nat × zV)} {st : List zV} {h : zH} {r : Option zV × zH} {x y : Int} (hd : decode M.2.1 pc = .ok (.lcmp, 1)) (k : zK M (pc + 1) L ((0, z_lcmp x y) :: st) h r) : zK M pc L ((1, y) :: (1, x) :: st) h r := by
  refine ⟨k.1, fun E p l e R s m args below meth c H locs cells slots n0 s0 Q ls g f => W.lcmp (x := Int64.ofInt x) (y := Int64.ofInt y) g.hx g.hb hd (zgo k g f (g.cnS.tail.tail.cons ?_) ?_)⟩
  · show zi32 _
    unfold z_lcmp zi32
    split
    · omega
    · split <;> omega
  · rw [List.map_cons, zvI]
    congr 2
    have hx : zi64 x := g.cnS.tail.head
    have hy : zi64 y := g.cnS.head
    unfold z_lcmp lg_cmp
    have e1 : (Int64.ofInt x > Int64.ofInt y) ↔ y < x := by rw [gt_iff_lt, Int64.lt_iff_toInt_lt, zL_to hx, zL_to hy]
    have e2 : (Int64.ofInt x = Int64.ofInt y) ↔ x = y := ⟨fun q => by rw [← zL_to hx, ← zL_to hy, q], fun q => by rw [q]⟩
    simp only [e1, e2]
    split
    · rfl
    · split <;> rfl
theorem k_idiv {M : zM} {pc : Nat} {L : List (Nat × zV)} {st : List zV} {h : zH} {r : Option zV × zH} {x y : Int} (hy : ¬ y = 0) (hd : decode M.2.1 pc = .ok (.idiv, 1)) (k : zK M (pc + 1) L ((0, zw (x.tdiv y)) :: st) h r) : zK M pc L ((0, y) :: (0, x) :: st) h r := by
  refine ⟨k.1, fun E p l e R s m args below meth c H locs cells slots n0 s0 Q ls g f => lv_idiv (x := Int32.ofInt x) (y := Int32.ofInt y) g.hx g.hb hd (fun q => hy ((zb0 g.cnS.head).mp q)) (zgo k g f (g.cnS.tail.tail.cons (zi_w _)) ?_)⟩
  rw [List.map_cons, zvI]
  congr 2
  apply Int32.toInt_inj.mp
  rw [Int32.toInt_div, zI_to (zi_w _), zI_to g.cnS.head, zI_to g.cnS.tail.head]
  try rfl
theorem k_irem {M : zM} {pc : Nat} {L : List (Nat × zV)} {st : List zV} {h : zH} {r : Option zV × zH} {x y : Int} (hy : ¬ y = 0) (hd : decode M.2.1 pc = .ok (.irem, 1)) (k : zK M (pc + 1) L ((0, zw (x - x.tdiv y * y)) :: st) h r) : zK M pc L ((0, y) :: (0, x) :: st) h r := by
  refine ⟨k.1, fun E p l e R s m args below meth c H locs cells slots n0 s0 Q ls g f => lv_irem (x := Int32.ofInt x) (y := Int32.ofInt y) g.hx g.hb hd (fun q => hy ((zb0 g.cnS.head).mp q)) (zgo k g f (g.cnS.tail.tail.cons (zi_w _)) ?_)⟩
  rw [List.map_cons, zvI]
  congr 2
  rw [zI_w, Int32.ofInt_sub, Int32.ofInt_mul]
  congr 2
  apply Int32.toInt_inj.mp
  rw [Int32.toInt_div, zI_to g.cnS.head, zI_to g.cnS.tail.head, Int32.toInt_ofInt]
  try rfl
theorem k_callVv {M M' : zM} {pc : Nat} {L : List (Nat × zV)} {rest as : List zV} {h h1 : zH} {r : Option zV × zH} {i kc n c' n2 : Nat} (hd : decode M.2.1 pc = .ok (.invokevirtual i, 3)) (hw : zCw M M' i 0 kc n) (hn : as.length = n) (hr8 : zwd rest ≤ 8) (hc : h.1[c']? = some (kc, n2)) (hM : zMt M' ((2, (c' : Int)) :: as) h (none, h1)) (k : zK M (pc + 3) L (rest) h1 r) : zK M pc L (as.reverse ++ (2, (c' : Int)) :: rest) h r := k_callV hd hw hn hr8 hc hM k
theorem k_callVi {M M' : zM} {pc : Nat} {L : List (Nat × zV)} {rest as : List zV} {h h1 : zH} {r : Option zV × zH} {x : Int} {i kc n c' n2 : Nat} (hd : decode M.2.1 pc = .ok (.invokevirtual i, 3)) (hw : zCw M M' i 0 kc n) (hn : as.length = n) (hr8 : zwd rest ≤ 8) (hc : h.1[c']? = some (kc, n2)) (hM : zMt M' ((2, (c' : Int)) :: as) h (some (0, x), h1)) (k : zK M (pc + 3) L ((0, x) :: rest) h1 r) : zK M pc L (as.reverse ++ (2, (c' : Int)) :: rest) h r := k_callV hd hw hn hr8 hc hM k
theorem k_callVr {M M' : zM} {pc : Nat} {L : List (Nat × zV)} {rest as : List zV} {h h1 : zH} {r : Option zV × zH} {x : Nat} {i kc n c' n2 : Nat} (hd : decode M.2.1 pc = .ok (.invokevirtual i, 3)) (hw : zCw M M' i 0 kc n) (hn : as.length = n) (hr8 : zwd rest ≤ 8) (hc : h.1[c']? = some (kc, n2)) (hM : zMt M' ((2, (c' : Int)) :: as) h (some (2, (x : Int)), h1)) (k : zK M (pc + 3) L ((2, (x : Int)) :: rest) h1 r) : zK M pc L (as.reverse ++ (2, (c' : Int)) :: rest) h r := k_callV hd hw hn hr8 hc hM k
theorem k_callSv {M M' : zM} {pc : Nat} {L : List (Nat × zV)} {rest as : List zV} {h h1 : zH} {r : Option zV × zH} {i n : Nat} (hd : decode M.2.1 pc = .ok (.invokestatic i, 3)) (hw : zCw M M' i 1 0 n) (hn : as.length = n) (hr8 : zwd rest ≤ 8) (hM : zMt M' as h (none, h1)) (k : zK M (pc + 3) L (rest) h1 r) : zK M pc L (as.reverse ++ rest) h r := k_callS hd hw hn hr8 hM k
theorem k_callSi {M M' : zM} {pc : Nat} {L : List (Nat × zV)} {rest as : List zV} {h h1 : zH} {r : Option zV × zH} {x : Int} {i n : Nat} (hd : decode M.2.1 pc = .ok (.invokestatic i, 3)) (hw : zCw M M' i 1 0 n) (hn : as.length = n) (hr8 : zwd rest ≤ 8) (hM : zMt M' as h (some (0, x), h1)) (k : zK M (pc + 3) L ((0, x) :: rest) h1 r) : zK M pc L (as.reverse ++ rest) h r := k_callS hd hw hn hr8 hM k
theorem k_callSr {M M' : zM} {pc : Nat} {L : List (Nat × zV)} {rest as : List zV} {h h1 : zH} {r : Option zV × zH} {x : Nat} {i n : Nat} (hd : decode M.2.1 pc = .ok (.invokestatic i, 3)) (hw : zCw M M' i 1 0 n) (hn : as.length = n) (hr8 : zwd rest ≤ 8) (hM : zMt M' as h (some (2, (x : Int)), h1)) (k : zK M (pc + 3) L ((2, (x : Int)) :: rest) h1 r) : zK M pc L (as.reverse ++ rest) h r := k_callS hd hw hn hr8 hM k
theorem k_callIv {M M' : zM} {pc : Nat} {L : List (Nat × zV)} {rest as : List zV} {h h1 : zH} {r : Option zV × zH} {i n c' : Nat} (hd : decode M.2.1 pc = .ok (.invokespecial i, 3)) (hw : zCw M M' i 2 0 n) (hn : as.length = n) (hr8 : zwd rest ≤ 8) (hM : zMt M' ((2, (c' : Int)) :: as) h (none, h1)) (k : zK M (pc + 3) L (rest) h1 r) : zK M pc L (as.reverse ++ (2, (c' : Int)) :: rest) h r := k_callI hd hw hn hr8 hM k
theorem k_callIi {M M' : zM} {pc : Nat} {L : List (Nat × zV)} {rest as : List zV} {h h1 : zH} {r : Option zV × zH} {x : Int} {i n c' : Nat} (hd : decode M.2.1 pc = .ok (.invokespecial i, 3)) (hw : zCw M M' i 2 0 n) (hn : as.length = n) (hr8 : zwd rest ≤ 8) (hM : zMt M' ((2, (c' : Int)) :: as) h (some (0, x), h1)) (k : zK M (pc + 3) L ((0, x) :: rest) h1 r) : zK M pc L (as.reverse ++ (2, (c' : Int)) :: rest) h r := k_callI hd hw hn hr8 hM k
theorem k_callIr {M M' : zM} {pc : Nat} {L : List (Nat × zV)} {rest as : List zV} {h h1 : zH} {r : Option zV × zH} {x : Nat} {i n c' : Nat} (hd : decode M.2.1 pc = .ok (.invokespecial i, 3)) (hw : zCw M M' i 2 0 n) (hn : as.length = n) (hr8 : zwd rest ≤ 8) (hM : zMt M' ((2, (c' : Int)) :: as) h (some (2, (x : Int)), h1)) (k : zK M (pc + 3) L ((2, (x : Int)) :: rest) h1 r) : zK M pc L (as.reverse ++ (2, (c' : Int)) :: rest) h r := k_callI hd hw hn hr8 hM k
end
section
/-! System.arraycopy of int[] and char[] -/
theorem z_cp_of {h h' : zH} {k c0 c1 : Nat} {sp dp n : Int} (e : z_cp h k c0 sp c1 dp n = some h') : ∃ n0 n1, h.1[c0]? = some (k, n0) ∧ h.1[c1]? = some (k, n1) ∧ (0 ≤ sp ∧ 0 ≤ dp ∧ 0 ≤ n ∧ sp + n ≤ (n0 : Int) ∧ dp + n ≤ (n1 : Int)) ∧ h' = (h.1, h.2.1, fun a j => if a = c1 ∧ dp.toNat ≤ j ∧ j < dp.toNat + n.toNat then h.2.2 c0 (sp.toNat + (j - dp.toNat)) else h.2.2 a j) := by
  unfold z_cp at e
  split at e
  · rename_i q u hq hu
    split at e
    · rename_i hk
      obtain ⟨a, b⟩ := q
      obtain ⟨a2, b2⟩ := u
      obtain ⟨rfl, rfl, hk2⟩ := hk
      exact ⟨b, b2, hq, hu, hk2, (Option.some.inj e).symm⟩
    · cases e
  · cases e
theorem zfitc {x : Int} (h : 0 ≤ x ∧ x < 65536) : fits .char (.int (Int32.ofInt x)) = true := by
  have h3 : zi32 x := by unfold zi32; omega
  show (decide (0 ≤ Int32.ofInt x) && decide (Int32.ofInt x ≤ 65535)) = true
  have e1 := (zbG0 h3).mpr h.1
  have e2 : Int32.ofInt x ≤ Int32.ofInt 65535 := (zI_le h3 (by unfold zi32; omega)).mpr (by omega)
  have e3 : (Int32.ofInt 65535 : Int32) = 65535 := rfl
  rw [e3] at e2
  simp [e1, e2]
theorem k_copy {M : zM} {pc : Nat} {L : List (Nat × zV)} {st : List zV} {h : zH} {r : Option zV × zH} {i k c0 c1 : Nat} {sp dp n : Int} {h' : zH} {ty : FieldType} (hk : (k = 20 ∧ ty = .int) ∨ (k = 21 ∧ ty = .char)) (hd : decode M.2.1 pc = .ok (.invokestatic i, 3)) (h1 : Cond.methodLink M.1.cls i arraycopyName ∈ zGW) (h2 : Cond.native arraycopyName ∈ zGW) (h3 : Cond.static arraycopyName ∈ zGW) (h4 : Cond.initialized "java/lang/System" ∈ zGW)
    (hfr : 1 ≤ M.2.2.2.2.1 ∧ 26 ≤ M.2.2.2.2.2) (hr8 : zwd st ≤ 8) (e : z_cp h k c0 sp c1 dp n = some h') (k0 : zK M (pc + 3) L st h' r) : zK M pc L ((0, n) :: (0, dp) :: (2, (c1 : Int)) :: (0, sp) :: (2, (c0 : Int)) :: st) h r := by
  obtain ⟨n0', n1, hc0, hc1, ⟨hsp, hdp, hn, hs0, hs1⟩, rfl⟩ := z_cp_of e
  refine ⟨k0.1, fun E p l e R s m args below meth c H locs cells slots n0 s0 Q ls g f => ?_⟩
  have hk20 : ¬ k < 20 := by omega
  have hk99 : k ≠ 99 := by omega
  have hz0 := g.rp.c0 hc0 hk99
  have hz1 := g.rp.c0 hc1 hk99
  have ha0 := g.rp.arr hc0 hk20 hk99
  have ha1 := g.rp.arr hc1 hk20 hk99
  have hk23 : k < 23 := by omega
  have hn3 : zi32 n := g.cnS.head
  have hdp3 : zi32 dp := g.cnS.tail.head
  have hsp3 : zi32 sp := g.cnS.tail.tail.tail.head
  have hav : ∀ (c' j : Nat), zav E k (h.2.1 c' j) (h.2.2 c' j) = .int (Int32.ofInt (h.2.2 c' j)) := fun c' j => if_pos hk23
  simp only [hav] at ha0 ha1
  have hrk : refKind ty = false := by rcases hk with ⟨-, rfl⟩ | ⟨-, rfl⟩ <;> rfl
  have htys : ∀ (nn : Nat) (z : Nat → Value), s.isArrayOf (arrV (E.2.1 (k - 20)) nn z) ty := by
    rcases hk with ⟨rfl, rfl⟩ | ⟨rfl, rfl⟩
    · exact fun nn z => (g.hK.2 0 _ rfl).1 nn z
    · exact fun nn z => (g.hK.2 1 _ rfl).1 nn z
  rw [List.map_cons, List.map_cons, List.map_cons, List.map_cons, List.map_cons, zvR, zvR, zrf_ne hz0, zrf_ne hz1, zvI, zvI, zvI]
  intro T hT X
  obtain ⟨-, kA, hkA, cm, hkk⟩ := htys n0' (fun j => .int (Int32.ofInt (h.2.2 c0 j)))
  have h8 := zcatS E st hr8
  obtain ⟨vm', X', step⟩ := X.arraycopy g.hx g.own (g.hts _ h1) (g.hts _ h2) (g.hts _ h3) (g.hts _ h4) (src := E.2.2.1 + c0) (dst := E.2.2.1 + c1) (cs := arrV (E.2.1 (k - 20)) n0' fun j => .int (Int32.ofInt (h.2.2 c0 j))) (cd := arrV (E.2.1 (k - 20)) n1 fun j => .int (Int32.ofInt (h.2.2 c1 j))) (srcPos := Int32.ofInt sp) (destPos := Int32.ofInt dp) (n := Int32.ofInt n) (by rw [hT]; exact ha0) (by rw [hT]; exact ha1)
    (fun _ h => by cases h) (fun _ h => by cases h) (fun h => by cases h) (fun h => by cases h) hkA hkA hkk hkk (by simp [hrk]) (by rw [zbl0 hsp3]; omega) (by rw [zbl0 hdp3]; omega) (by rw [zbl0 hn3]; omega)
    (by rw [zI_to hsp3, zI_to hn3, arrV_size]; omega)
    (by rw [zI_to hdp3, zI_to hn3, arrV_size]; omega)
    (fun vm₁ _ i hi => by
      rw [zI_cl hn3] at hi
      have e9 : (arrV (E.2.1 (k - 20)) n0' fun j => Value.int (Int32.ofInt (h.2.2 c0 j))).slots.getD ((Int32.ofInt sp).toNatClampNeg + i) .null = .int (Int32.ofInt (h.2.2 c0 (sp.toNat + i))) := by
        rw [Array.getD_eq_getD_getElem?, zI_cl hsp3, arrV_read _ _ (by omega)]
        rfl
      refine ⟨?_, ?_⟩
      · rw [e9]
        have hzk := g.rp.2.2.2.1 _ _ _ (sp.toNat + i) hc0
        rcases hk with ⟨rfl, rfl⟩ | ⟨rfl, rfl⟩
        · rfl
        · exact zfitc hzk
      · rw [e9]
        exact trivial)
    (g := F0 m pc ls (.int (Int32.ofInt n) :: .int (Int32.ofInt dp) :: .ref (E.2.2.1 + c1) :: .int (Int32.ofInt sp) :: .ref (E.2.2.1 + c0) :: st.map (zcv E))) rfl (by rw [g.hml]; exact g.lv.1) (rest := st.map (zcv E)) rfl (by rw [g.hb]; exact hd) (Nat.le_trans hfr.1 g.2.1.1) (by
      have h9 := Nat.le_trans hfr.2 g.2.1.2
      show 2 * 0 + _ + (7 + 11) ≤ _
      omega)
  have e1 : copied (arrV (E.2.1 (k - 20)) n0' fun j => .int (Int32.ofInt (h.2.2 c0 j))) (arrV (E.2.1 (k - 20)) n1 fun j => .int (Int32.ofInt (h.2.2 c1 j))) (Int32.ofInt sp) (Int32.ofInt dp) (Int32.ofInt n) = arrV (E.2.1 (k - 20)) n1 (fun j => .int (va_cpy (fun j => Int32.ofInt (h.2.2 c0 j)) (fun j => Int32.ofInt (h.2.2 c1 j)) (Int32.ofInt sp).toNatClampNeg (Int32.ofInt dp).toNatClampNeg (Int32.ofInt n).toNatClampNeg j)) := va_copied (fun z => .int z) (E.2.1 (k - 20)) (E.2.1 (k - 20)) (fun j => Int32.ofInt (h.2.2 c0 j)) (fun j => Int32.ofInt (h.2.2 c1 j)) (by rw [zI_cl hsp3, zI_cl hn3]; omega)
  rw [e1] at X' step
  rw [zI_cl hsp3, zI_cl hdp3, zI_cl hn3] at X' step
  generalize hcell : arrV (E.2.1 (k - 20)) n1 (fun j => Value.int (va_cpy (fun j => Int32.ofInt (h.2.2 c0 j)) (fun j => Int32.ofInt (h.2.2 c1 j)) sp.toNat dp.toNat n.toNat j)) = cell at X' step
  have hl : E.2.2.1 + c1 < H.size := g.rp.sz hc1
  have hheap : ((T.setVm vm').setCell (E.2.2.1 + c1) cell).heap = H.setIfInBounds (E.2.2.1 + c1) cell := by rw [← hT]; rfl
  have oq : ∀ q : Nat, q ≠ E.2.2.1 + c1 → (H.setIfInBounds (E.2.2.1 + c1) cell)[q]? = H[q]? := fun q hq => by simp [Array.getElem?_setIfInBounds, Ne.symm hq]
  have oa : (H.setIfInBounds (E.2.2.1 + c1) cell)[E.2.2.1 + c1]? = some cell := by simp [Array.getElem?_setIfInBounds, hl]
  have z1 : (H.setIfInBounds (E.2.2.1 + c1) cell).size = H.size := by simp
  have hRp : zRp E (h.1, h.2.1, fun a j => if a = c1 ∧ dp.toNat ≤ j ∧ j < dp.toNat + n.toNat then h.2.2 c0 (sp.toNat + (j - dp.toNat)) else h.2.2 a j) (H.setIfInBounds (E.2.2.1 + c1) cell) := by
    refine g.rp.put hc1 hk99 (fun _ _ _ => rfl) (fun a b hab => if_neg fun q => hab q.1) ?_ (fun b => ?_) z1 oq
    · unfold zat
      rw [if_neg hk20, oa, ← hcell]
      congr 2
      funext j
      show _ = zav E k _ (if c1 = c1 ∧ dp.toNat ≤ j ∧ j < dp.toNat + n.toNat then _ else _)
      unfold zav va_cpy
      rw [if_pos hk23]
      congr 1
      by_cases hj : dp.toNat ≤ j ∧ j < dp.toNat + n.toNat
      · rw [if_pos hj, if_pos ⟨rfl, hj⟩]
      · rw [if_neg hj, if_neg fun q => hj q.2]
    · show zok (ztp k b) (if c1 = c1 ∧ dp.toNat ≤ b ∧ b < dp.toNat + n.toNat then _ else _)
      have hzt : ∀ a b, ztp k a = ztp k b := by
        intro a b
        unfold ztp
        rw [if_neg hk20, if_neg hk20]
      split
      · have := g.rp.2.2.2.1 _ _ _ (sp.toNat + (b - dp.toNat)) hc0
        rw [hzt b (sp.toNat + (b - dp.toNat))]
        exact this
      · exact g.rp.2.2.2.1 _ _ _ b hc1
  have hSf : ∀ L2 : List Loc, (∀ x ∈ L2, x.base = E.2.2.1 + c1) → zSf E s.heap (H.setIfInBounds (E.2.2.1 + c1) cell) (locs ++ L2) := fun L2 hL2 => ⟨fun q hq => by rw [oq q (by omega)]; exact g.sf.1 q hq, fun x hx => by
      rcases List.mem_append.mp hx with hx | hx
      · exact g.sf.2.1 x hx
      · rw [hL2 x hx]
        omega, by rw [z1]; exact g.sf.2.2⟩
  obtain ⟨t, a1, b1⟩ := k0.2 E p l e R s m args below meth c _ _ cells slots n0 s0 Q ls (g.hp g.cnS.tail.tail.tail.tail.tail hRp (hSf _ (fun x hx => by obtain ⟨z, -, hz⟩ := List.mem_map.mp hx; rw [← hz])) g.2.2.2.2.2.2.2.1 g.2.2.2.2.2.2.2.2.1) f _ hheap X'
  exact ⟨t, step t a1, b1⟩
end
section
/-! Words of the tables -/
theorem z_in1 {w : Cond} (h : w ∈ tables_1_1) (hg : zgood w = true) : w ∈ zGW := by
  refine List.mem_filter.mpr ⟨List.mem_append_right _ ?_, hg⟩
  unfold tables_1
  exact List.mem_append_left _ h
theorem z_in2 {w : Cond} (h : w ∈ tables_1_2) (hg : zgood w = true) : w ∈ zGW := by
  refine List.mem_filter.mpr ⟨List.mem_append_right _ ?_, hg⟩
  unfold tables_1
  exact List.mem_append_right _ (List.mem_append_left _ h)
theorem z_in3 {w : Cond} (h : w ∈ tables_1_3) (hg : zgood w = true) : w ∈ zGW := by
  refine List.mem_filter.mpr ⟨List.mem_append_right _ ?_, hg⟩
  unfold tables_1
  exact List.mem_append_right _ (List.mem_append_right _ (List.mem_append_left _ h))
theorem z_in4 {w : Cond} (h : w ∈ tables_1_4) (hg : zgood w = true) : w ∈ zGW := by
  refine List.mem_filter.mpr ⟨List.mem_append_right _ ?_, hg⟩
  unfold tables_1
  exact List.mem_append_right _ (List.mem_append_right _ (List.mem_append_right _ (List.mem_append_left _ h)))
theorem z_in5 {w : Cond} (h : w ∈ tables_1_5) (hg : zgood w = true) : w ∈ zGW := by
  refine List.mem_filter.mpr ⟨List.mem_append_right _ ?_, hg⟩
  unfold tables_1
  exact List.mem_append_right _ (List.mem_append_right _ (List.mem_append_right _ (List.mem_append_right _ h)))
theorem z_inp {q : MethodName × Nat} (h : q ∈ lw_privs) : Cond.selects q.1.cls q.1 q.1 ∈ zGW := List.mem_filter.mpr ⟨List.mem_append_left _ (List.mem_map.mpr ⟨q, h, rfl⟩), rfl⟩
theorem z_int {w : Cond} (h : w ∈ tables_1) (hg : zgood w = true) : w ∈ zGW := List.mem_filter.mpr ⟨List.mem_append_right _ h, hg⟩
theorem w_ac20 : Cond.arrayClass FieldType.int ∈ zGW := z_in1 (List.mem_of_getElem? (i := 75) rfl) rfl
theorem w_ac21 : Cond.arrayClass FieldType.char ∈ zGW := z_in1 (List.mem_of_getElem? (i := 74) rfl) rfl
theorem w_ac22 : Cond.arrayClass FieldType.boolean ∈ zGW := z_in1 (List.mem_of_getElem? (i := 76) rfl) rfl
theorem w_ac23 : Cond.arrayClass FieldType.long ∈ zGW := z_in1 (List.mem_of_getElem? (i := 229) rfl) rfl
theorem w_obj1 : Cond.instanceMethod ⟨"java/lang/Object", "<init>", "()V"⟩ ∈ zGW := z_in1 (List.mem_of_getElem? (i := 20) rfl) rfl
theorem z_lay_SL : ∀ w ∈ u_ws R_SL T_SL 10, w ∈ tables_1 ∧ zgood w = true := by decide +kernel
theorem ck_SL : zCk 0 R_SL T_SL 10 := ⟨by decide, rfl, fun w hw => z_int (z_lay_SL w hw).1 (z_lay_SL w hw).2, ⟨u_SL, by decide +kernel⟩, by decide +kernel⟩
theorem df_SL : ∀ j, j < 10 → ∃ ty, parseFieldDescriptor (T_SL j).2.2.1 = some ty ∧ defaultValue ty = zdf (zty 0 j) := by
  have h : ∀ j, j < 10 → parseFieldDescriptor (T_SL j).2.2.1 = some (u_SL j) ∧ defaultValue (u_SL j) = zdf (zty 0 j) := by decide +kernel
  exact fun j hj => ⟨_, h j hj⟩
theorem z_lay_St : ∀ w ∈ u_ws R_St T_St 4, w ∈ tables_1 ∧ zgood w = true := by decide +kernel
theorem ck_St : zCk 1 R_St T_St 4 := ⟨by decide, rfl, fun w hw => z_int (z_lay_St w hw).1 (z_lay_St w hw).2, ⟨u_St, by decide +kernel⟩, by decide +kernel⟩
theorem df_St : ∀ j, j < 4 → ∃ ty, parseFieldDescriptor (T_St j).2.2.1 = some ty ∧ defaultValue ty = zdf (zty 1 j) := by
  have h : ∀ j, j < 4 → parseFieldDescriptor (T_St j).2.2.1 = some (u_St j) ∧ defaultValue (u_St j) = zdf (zty 1 j) := by decide +kernel
  exact fun j hj => ⟨_, h j hj⟩
theorem z_lay_Li : ∀ w ∈ u_ws R_Li T_Li 8, w ∈ tables_1 ∧ zgood w = true := by decide +kernel
theorem ck_Li : zCk 2 R_Li T_Li 8 := ⟨by decide, rfl, fun w hw => z_int (z_lay_Li w hw).1 (z_lay_Li w hw).2, ⟨u_Li, by decide +kernel⟩, by decide +kernel⟩
theorem df_Li : ∀ j, j < 8 → ∃ ty, parseFieldDescriptor (T_Li j).2.2.1 = some ty ∧ defaultValue ty = zdf (zty 2 j) := by
  have h : ∀ j, j < 8 → parseFieldDescriptor (T_Li j).2.2.1 = some (u_Li j) ∧ defaultValue (u_Li j) = zdf (zty 2 j) := by decide +kernel
  exact fun j hj => ⟨_, h j hj⟩
theorem z_lay_Pa : ∀ w ∈ u_ws R_Pa T_Pa 4, w ∈ tables_1 ∧ zgood w = true := by decide +kernel
theorem ck_Pa : zCk 3 R_Pa T_Pa 4 := ⟨by decide, rfl, fun w hw => z_int (z_lay_Pa w hw).1 (z_lay_Pa w hw).2, ⟨u_Pa, by decide +kernel⟩, by decide +kernel⟩
theorem df_Pa : ∀ j, j < 4 → ∃ ty, parseFieldDescriptor (T_Pa j).2.2.1 = some ty ∧ defaultValue ty = zdf (zty 3 j) := by
  have h : ∀ j, j < 4 → parseFieldDescriptor (T_Pa j).2.2.1 = some (u_Pa j) ∧ defaultValue (u_Pa j) = zdf (zty 3 j) := by decide +kernel
  exact fun j hj => ⟨_, h j hj⟩
theorem z_lay_Pt : ∀ w ∈ u_ws R_Pt T_Pt 7, w ∈ tables_1 ∧ zgood w = true := by decide +kernel
theorem ck_Pt : zCk 4 R_Pt T_Pt 7 := ⟨by decide, rfl, fun w hw => z_int (z_lay_Pt w hw).1 (z_lay_Pt w hw).2, ⟨u_Pt, by decide +kernel⟩, by decide +kernel⟩
theorem df_Pt : ∀ j, j < 7 → ∃ ty, parseFieldDescriptor (T_Pt j).2.2.1 = some ty ∧ defaultValue ty = zdf (zty 4 j) := by
  have h : ∀ j, j < 7 → parseFieldDescriptor (T_Pt j).2.2.1 = some (u_Pt j) ∧ defaultValue (u_Pt j) = zdf (zty 4 j) := by decide +kernel
  exact fun j hj => ⟨_, h j hj⟩
theorem z_lay_Pr : ∀ w ∈ u_ws R_Pr T_Pr 15, w ∈ tables_1 ∧ zgood w = true := by decide +kernel
theorem ck_Pr : zCk 5 R_Pr T_Pr 15 := ⟨by decide, rfl, fun w hw => z_int (z_lay_Pr w hw).1 (z_lay_Pr w hw).2, ⟨u_Pr, by decide +kernel⟩, by decide +kernel⟩
theorem df_Pr : ∀ j, j < 15 → ∃ ty, parseFieldDescriptor (T_Pr j).2.2.1 = some ty ∧ defaultValue ty = zdf (zty 5 j) := by
  have h : ∀ j, j < 15 → parseFieldDescriptor (T_Pr j).2.2.1 = some (u_Pr j) ∧ defaultValue (u_Pr j) = zdf (zty 5 j) := by decide +kernel
  exact fun j hj => ⟨_, h j hj⟩
theorem z_lay_Se : ∀ w ∈ u_ws R_Se T_Se 12, w ∈ tables_1 ∧ zgood w = true := by decide +kernel
theorem ck_Se : zCk 6 R_Se T_Se 12 := ⟨by decide, rfl, fun w hw => z_int (z_lay_Se w hw).1 (z_lay_Se w hw).2, ⟨u_Se, by decide +kernel⟩, by decide +kernel⟩
theorem df_Se : ∀ j, j < 12 → ∃ ty, parseFieldDescriptor (T_Se j).2.2.1 = some ty ∧ defaultValue ty = zdf (zty 6 j) := by
  have h : ∀ j, j < 12 → parseFieldDescriptor (T_Se j).2.2.1 = some (u_Se j) ∧ defaultValue (u_Se j) = zdf (zty 6 j) := by decide +kernel
  exact fun j hj => ⟨_, h j hj⟩
theorem z_lay_Ru : ∀ w ∈ u_ws R_Ru T_Ru 6, w ∈ tables_1 ∧ zgood w = true := by decide +kernel
theorem ck_Ru : zCk 7 R_Ru T_Ru 6 := ⟨by decide, rfl, fun w hw => z_int (z_lay_Ru w hw).1 (z_lay_Ru w hw).2, ⟨u_Ru, by decide +kernel⟩, by decide +kernel⟩
theorem df_Ru : ∀ j, j < 6 → ∃ ty, parseFieldDescriptor (T_Ru j).2.2.1 = some ty ∧ defaultValue ty = zdf (zty 7 j) := by
  have h : ∀ j, j < 6 → parseFieldDescriptor (T_Ru j).2.2.1 = some (u_Ru j) ∧ defaultValue (u_Ru j) = zdf (zty 7 j) := by decide +kernel
  exact fun j hj => ⟨_, h j hj⟩
theorem z_lay_Gr : ∀ w ∈ u_ws R_Gr T_Gr 10, w ∈ tables_1 ∧ zgood w = true := by decide +kernel
theorem ck_Gr : zCk 8 R_Gr T_Gr 10 := ⟨by decide, rfl, fun w hw => z_int (z_lay_Gr w hw).1 (z_lay_Gr w hw).2, ⟨u_Gr, by decide +kernel⟩, by decide +kernel⟩
theorem df_Gr : ∀ j, j < 10 → ∃ ty, parseFieldDescriptor (T_Gr j).2.2.1 = some ty ∧ defaultValue ty = zdf (zty 8 j) := by
  have h : ∀ j, j < 10 → parseFieldDescriptor (T_Gr j).2.2.1 = some (u_Gr j) ∧ defaultValue (u_Gr j) = zdf (zty 8 j) := by decide +kernel
  exact fun j hj => ⟨_, h j hj⟩
theorem z_lay_Mo : ∀ w ∈ u_ws R_Mo T_Mo 52, w ∈ tables_1 ∧ zgood w = true := by decide +kernel
theorem ck_Mo : zCk 9 R_Mo T_Mo 52 := ⟨by decide, rfl, fun w hw => z_int (z_lay_Mo w hw).1 (z_lay_Mo w hw).2, ⟨u_Mo, by decide +kernel⟩, by decide +kernel⟩
theorem df_Mo : ∀ j, j < 52 → ∃ ty, parseFieldDescriptor (T_Mo j).2.2.1 = some ty ∧ defaultValue ty = zdf (zty 9 j) := by
  have h : ∀ j, j < 52 → parseFieldDescriptor (T_Mo j).2.2.1 = some (u_Mo j) ∧ defaultValue (u_Mo j) = zdf (zty 9 j) := by decide +kernel
  exact fun j hj => ⟨_, h j hj⟩
def m_Pr_init : zM := (y_Pr_init, prog_5_method_1_code, 1, (none : Option FieldType), 1, 26)
theorem wc_Pr_init : Cond.code m_Pr_init.1 m_Pr_init.2.1 m_Pr_init.2.2.1 m_Pr_init.2.2.2.1 ∈ zGW := z_in1 (List.mem_of_getElem? (i := 26) rfl) rfl
def m_Pa_init : zM := (y_Pa_init, prog_4_method_1_code, 1, (none : Option FieldType), 1, 26)
theorem wc_Pa_init : Cond.code m_Pa_init.1 m_Pa_init.2.1 m_Pa_init.2.2.1 m_Pa_init.2.2.2.1 ∈ zGW := z_in1 (List.mem_of_getElem? (i := 83) rfl) rfl
def m_St_init : zM := (y_St_init, prog_9_method_1_code, 1, (none : Option FieldType), 1, 26)
theorem wc_St_init : Cond.code m_St_init.1 m_St_init.2.1 m_St_init.2.2.1 m_St_init.2.2.2.1 ∈ zGW := z_in1 (List.mem_of_getElem? (i := 103) rfl) rfl
def m_Se_init : zM := (y_Se_init, prog_8_method_1_code, 2, (none : Option FieldType), 1, 26)
theorem wc_Se_init : Cond.code m_Se_init.1 m_Se_init.2.1 m_Se_init.2.2.1 m_Se_init.2.2.2.1 ∈ zGW := z_in1 (List.mem_of_getElem? (i := 143) rfl) rfl
def m_Pt_init : zM := (y_Pt_init, prog_6_method_1_code, 1, (none : Option FieldType), 1, 26)
theorem wc_Pt_init : Cond.code m_Pt_init.1 m_Pt_init.2.1 m_Pt_init.2.2.1 m_Pt_init.2.2.2.1 ∈ zGW := z_in1 (List.mem_of_getElem? (i := 200) rfl) rfl
def m_Ru_init : zM := (y_Ru_init, prog_7_method_1_code, 1, (none : Option FieldType), 2, 46)
theorem wc_Ru_init : Cond.code m_Ru_init.1 m_Ru_init.2.1 m_Ru_init.2.2.1 m_Ru_init.2.2.2.1 ∈ zGW := z_in1 (List.mem_of_getElem? (i := 194) rfl) rfl
def m_Gr_init : zM := (y_Gr_init, prog_2_method_1_code, 3, (none : Option FieldType), 3, 66)
theorem wc_Gr_init : Cond.code m_Gr_init.1 m_Gr_init.2.1 m_Gr_init.2.2.1 m_Gr_init.2.2.2.1 ∈ zGW := z_in1 (List.mem_of_getElem? (i := 133) rfl) rfl
def m_Li_init : zM := (y_Li_init, prog_3_method_1_code, 1, (none : Option FieldType), 2, 46)
theorem wc_Li_init : Cond.code m_Li_init.1 m_Li_init.2.1 m_Li_init.2.2.1 m_Li_init.2.2.2.1 ∈ zGW := z_in2 (List.mem_of_getElem? (i := 52) rfl) rfl
def m_SL_init : zM := (y_SL_init, prog_1_method_1_code, 3, (none : Option FieldType), 4, 88)
theorem wc_SL_init : Cond.code m_SL_init.1 m_SL_init.2.1 m_SL_init.2.2.1 m_SL_init.2.2.2.1 ∈ zGW := z_in1 (List.mem_of_getElem? (i := 18) rfl) rfl
def m_SL_type : zM := (y_SL_type, prog_1_method_2_code, 6, (some FieldType.boolean), 0, 0)
theorem wc_SL_type : Cond.code m_SL_type.1 m_SL_type.2.1 m_SL_type.2.2.1 m_SL_type.2.2.2.1 ∈ zGW := z_in2 (List.mem_of_getElem? (i := 128) rfl) rfl
def m_SL_wipe : zM := (y_SL_wipe, prog_1_method_3_code, 1, (none : Option FieldType), 0, 0)
theorem wc_SL_wipe : Cond.code m_SL_wipe.1 m_SL_wipe.2.1 m_SL_wipe.2.2.1 m_SL_wipe.2.2.2.1 ∈ zGW := z_in2 (List.mem_of_getElem? (i := 132) rfl) rfl
def m_Gr_isRange : zM := (y_Gr_isRange, prog_2_method_2_code, 2, (some FieldType.boolean), 0, 0)
theorem wc_Gr_isRange : Cond.code m_Gr_isRange.1 m_Gr_isRange.2.1 m_Gr_isRange.2.2.1 m_Gr_isRange.2.2.2.1 ∈ zGW := z_in2 (List.mem_of_getElem? (i := 140) rfl) rfl
def m_SL_isScope : zM := (y_SL_isScope, prog_1_method_20_code, 1, (some FieldType.boolean), 0, 0)
theorem wc_SL_isScope : Cond.code m_SL_isScope.1 m_SL_isScope.2.1 m_SL_isScope.2.2.1 m_SL_isScope.2.2.2.1 ∈ zGW := z_in2 (List.mem_of_getElem? (i := 143) rfl) rfl
def m_Gr_nextRule : zM := (y_Gr_nextRule, prog_2_method_3_code, 1, (some (FieldType.object "ScopeLines$Rule")), 0, 0)
theorem wc_Gr_nextRule : Cond.code m_Gr_nextRule.1 m_Gr_nextRule.2.1 m_Gr_nextRule.2.2.1 m_Gr_nextRule.2.2.2.1 ∈ zGW := z_in2 (List.mem_of_getElem? (i := 147) rfl) rfl
def m_Pr_hasBlank : zM := (y_Pr_hasBlank, prog_5_method_3_code, 3, (some FieldType.boolean), 0, 0)
theorem wc_Pr_hasBlank : Cond.code m_Pr_hasBlank.1 m_Pr_hasBlank.2.1 m_Pr_hasBlank.2.2.1 m_Pr_hasBlank.2.2.2.1 ∈ zGW := z_in2 (List.mem_of_getElem? (i := 158) rfl) rfl
def m_Pt_clear : zM := (y_Pt_clear, prog_6_method_2_code, 1, (none : Option FieldType), 0, 0)
theorem wc_Pt_clear : Cond.code m_Pt_clear.1 m_Pt_clear.2.1 m_Pt_clear.2.2.1 m_Pt_clear.2.2.2.1 ∈ zGW := z_in2 (List.mem_of_getElem? (i := 162) rfl) rfl
def m_Pr_openLevel : zM := (y_Pr_openLevel, prog_5_method_5_code, 2, (none : Option FieldType), 0, 0)
theorem wc_Pr_openLevel : Cond.code m_Pr_openLevel.1 m_Pr_openLevel.2.1 m_Pr_openLevel.2.2.1 m_Pr_openLevel.2.2.2.1 ∈ zGW := z_in2 (List.mem_of_getElem? (i := 166) rfl) rfl
def m_Pt_insert : zM := (y_Pt_insert, prog_6_method_4_code, 6, (none : Option FieldType), 0, 0)
theorem wc_Pt_insert : Cond.code m_Pt_insert.1 m_Pt_insert.2.1 m_Pt_insert.2.2.1 m_Pt_insert.2.2.2.1 ∈ zGW := z_in2 (List.mem_of_getElem? (i := 182) rfl) rfl
def m_Pt_append : zM := (y_Pt_append, prog_6_method_3_code, 3, (none : Option FieldType), 1, 25)
theorem wc_Pt_append : Cond.code m_Pt_append.1 m_Pt_append.2.1 m_Pt_append.2.2.1 m_Pt_append.2.2.2.1 ∈ zGW := z_in2 (List.mem_of_getElem? (i := 186) rfl) rfl
def m_Pt_endBranch : zM := (y_Pt_endBranch, prog_6_method_9_code, 2, (none : Option FieldType), 2, 47)
theorem wc_Pt_endBranch : Cond.code m_Pt_endBranch.1 m_Pt_endBranch.2.1 m_Pt_endBranch.2.2.1 m_Pt_endBranch.2.2.2.1 ∈ zGW := z_in2 (List.mem_of_getElem? (i := 178) rfl) rfl
def m_Pr_endBranch : zM := (y_Pr_endBranch, prog_5_method_7_code, 2, (none : Option FieldType), 3, 68)
theorem wc_Pr_endBranch : Cond.code m_Pr_endBranch.1 m_Pr_endBranch.2.1 m_Pr_endBranch.2.2.1 m_Pr_endBranch.2.2.2.1 ∈ zGW := z_in2 (List.mem_of_getElem? (i := 174) rfl) rfl
def m_Pr_openGroup : zM := (y_Pr_openGroup, prog_5_method_8_code, 2, (none : Option FieldType), 2, 47)
theorem wc_Pr_openGroup : Cond.code m_Pr_openGroup.1 m_Pr_openGroup.2.1 m_Pr_openGroup.2.2.1 m_Pr_openGroup.2.2.2.1 ∈ zGW := z_in2 (List.mem_of_getElem? (i := 190) rfl) rfl
def m_Pt_joinBranches : zM := (y_Pt_joinBranches, prog_6_method_10_code, 6, (none : Option FieldType), 0, 0)
theorem wc_Pt_joinBranches : Cond.code m_Pt_joinBranches.1 m_Pt_joinBranches.2.1 m_Pt_joinBranches.2.2.1 m_Pt_joinBranches.2.2.2.1 ∈ zGW := z_in2 (List.mem_of_getElem? (i := 203) rfl) rfl
def m_Pr_closeLevel : zM := (y_Pr_closeLevel, prog_5_method_6_code, 2, (some FieldType.boolean), 1, 25)
theorem wc_Pr_closeLevel : Cond.code m_Pr_closeLevel.1 m_Pr_closeLevel.2.1 m_Pr_closeLevel.2.2.1 m_Pr_closeLevel.2.2.2.1 ∈ zGW := z_in2 (List.mem_of_getElem? (i := 199) rfl) rfl
def m_Pt_insertSplit : zM := (y_Pt_insertSplit, prog_6_method_8_code, 5, (none : Option FieldType), 1, 25)
theorem wc_Pt_insertSplit : Cond.code m_Pt_insertSplit.1 m_Pt_insertSplit.2.1 m_Pt_insertSplit.2.2.1 m_Pt_insertSplit.2.2.2.1 ∈ zGW := z_in2 (List.mem_of_getElem? (i := 215) rfl) rfl
def m_Pt_repeat : zM := (y_Pt_repeat, prog_6_method_7_code, 5, (none : Option FieldType), 2, 49)
theorem wc_Pt_repeat : Cond.code m_Pt_repeat.1 m_Pt_repeat.2.1 m_Pt_repeat.2.2.1 m_Pt_repeat.2.2.2.1 ∈ zGW := z_in2 (List.mem_of_getElem? (i := 211) rfl) rfl
def m_Pr_readQuantifier : zM := (y_Pr_readQuantifier, prog_5_method_14_code, 7, (none : Option FieldType), 3, 73)
theorem wc_Pr_readQuantifier : Cond.code m_Pr_readQuantifier.1 m_Pr_readQuantifier.2.1 m_Pr_readQuantifier.2.2.1 m_Pr_readQuantifier.2.2.2.1 ∈ zGW := z_in2 (List.mem_of_getElem? (i := 207) rfl) rfl
def m_Pr_closeGroup : zM := (y_Pr_closeGroup, prog_5_method_9_code, 4, (none : Option FieldType), 4, 99)
theorem wc_Pr_closeGroup : Cond.code m_Pr_closeGroup.1 m_Pr_closeGroup.2.1 m_Pr_closeGroup.2.2.1 m_Pr_closeGroup.2.2.2.1 ∈ zGW := z_in2 (List.mem_of_getElem? (i := 195) rfl) rfl
def m_Pr_readItem : zM := (y_Pr_readItem, prog_5_method_13_code, 6, (none : Option FieldType), 0, 0)
theorem wc_Pr_readItem : Cond.code m_Pr_readItem.1 m_Pr_readItem.2.1 m_Pr_readItem.2.2.1 m_Pr_readItem.2.2.2.1 ∈ zGW := z_in2 (List.mem_of_getElem? (i := 227) rfl) rfl
def m_Pt_appendSet : zM := (y_Pt_appendSet, prog_6_method_5_code, 5, (none : Option FieldType), 2, 47)
theorem wc_Pt_appendSet : Cond.code m_Pt_appendSet.1 m_Pt_appendSet.2.1 m_Pt_appendSet.2.2.1 m_Pt_appendSet.2.2.2.1 ∈ zGW := z_in2 (List.mem_of_getElem? (i := 232) rfl) rfl
def m_Pr_readSet : zM := (y_Pr_readSet, prog_5_method_12_code, 5, (none : Option FieldType), 3, 71)
theorem wc_Pr_readSet : Cond.code m_Pr_readSet.1 m_Pr_readSet.2.1 m_Pr_readSet.2.2.1 m_Pr_readSet.2.2.2.1 ∈ zGW := z_in2 (List.mem_of_getElem? (i := 223) rfl) rfl
def m_Pr_readEscape : zM := (y_Pr_readEscape, prog_5_method_11_code, 3, (some FieldType.boolean), 2, 47)
theorem wc_Pr_readEscape : Cond.code m_Pr_readEscape.1 m_Pr_readEscape.2.1 m_Pr_readEscape.2.2.1 m_Pr_readEscape.2.2.2.1 ∈ zGW := z_in2 (List.mem_of_getElem? (i := 236) rfl) rfl
def m_Pr_readAtom : zM := (y_Pr_readAtom, prog_5_method_10_code, 3, (some FieldType.boolean), 4, 95)
theorem wc_Pr_readAtom : Cond.code m_Pr_readAtom.1 m_Pr_readAtom.2.1 m_Pr_readAtom.2.2.1 m_Pr_readAtom.2.2.2.1 ∈ zGW := z_in2 (List.mem_of_getElem? (i := 219) rfl) rfl
def m_Pr_readNext : zM := (y_Pr_readNext, prog_5_method_4_code, 5, (none : Option FieldType), 5, 122)
theorem wc_Pr_readNext : Cond.code m_Pr_readNext.1 m_Pr_readNext.2.1 m_Pr_readNext.2.2.1 m_Pr_readNext.2.2.2.1 ∈ zGW := z_in2 (List.mem_of_getElem? (i := 170) rfl) rfl
def m_Pr_parse : zM := (y_Pr_parse, prog_5_method_2_code, 7, (some FieldType.boolean), 6, 146)
theorem wc_Pr_parse : Cond.code m_Pr_parse.1 m_Pr_parse.2.1 m_Pr_parse.2.2.1 m_Pr_parse.2.2.2.1 ∈ zGW := z_in2 (List.mem_of_getElem? (i := 151) rfl) rfl
def m_Gr_keepNextRule : zM := (y_Gr_keepNextRule, prog_2_method_4_code, 5, (none : Option FieldType), 1, 20)
theorem wc_Gr_keepNextRule : Cond.code m_Gr_keepNextRule.1 m_Gr_keepNextRule.2.1 m_Gr_keepNextRule.2.2.1 m_Gr_keepNextRule.2.2.2.1 ∈ zGW := z_in3 (List.mem_of_getElem? (i := 4) rfl) rfl
def m_SL_addRule : zM := (y_SL_addRule, prog_1_method_22_code, 4, (some FieldType.int), 2, 44)
theorem wc_SL_addRule : Cond.code m_SL_addRule.1 m_SL_addRule.2.1 m_SL_addRule.2.2.1 m_SL_addRule.2.2.2.1 ∈ zGW := z_in3 (List.mem_of_getElem? (i := 0) rfl) rfl
def m_St_copy : zM := (y_St_copy, prog_9_method_8_code, 2, (none : Option FieldType), 1, 26)
theorem wc_St_copy : Cond.code m_St_copy.1 m_St_copy.2.1 m_St_copy.2.2.1 m_St_copy.2.2.2.1 ∈ zGW := z_in3 (List.mem_of_getElem? (i := 13) rfl) rfl
def m_St_innermost : zM := (y_St_innermost, prog_9_method_3_code, 1, (some FieldType.int), 0, 0)
theorem wc_St_innermost : Cond.code m_St_innermost.1 m_St_innermost.2.1 m_St_innermost.2.2.1 m_St_innermost.2.2.2.1 ∈ zGW := z_in3 (List.mem_of_getElem? (i := 27) rfl) rfl
def m_Gr_listRulesOf : zM := (y_Gr_listRulesOf, prog_2_method_9_code, 3, (none : Option FieldType), 0, 0)
theorem wc_Gr_listRulesOf : Cond.code m_Gr_listRulesOf.1 m_Gr_listRulesOf.2.1 m_Gr_listRulesOf.2.2.1 m_Gr_listRulesOf.2.2.2.1 ∈ zGW := z_in3 (List.mem_of_getElem? (i := 35) rfl) rfl
def m_Gr_listCandidates : zM := (y_Gr_listCandidates, prog_2_method_8_code, 2, (none : Option FieldType), 1, 22)
theorem wc_Gr_listCandidates : Cond.code m_Gr_listCandidates.1 m_Gr_listCandidates.2.1 m_Gr_listCandidates.2.2.1 m_Gr_listCandidates.2.2.2.1 ∈ zGW := z_in3 (List.mem_of_getElem? (i := 31) rfl) rfl
def m_Ar_fill : zM := (y_Ar_fill, prog_14_method_103_code, 4, (none : Option FieldType), 0, 0)
theorem wc_Ar_fill : Cond.code m_Ar_fill.1 m_Ar_fill.2.1 m_Ar_fill.2.2.1 m_Ar_fill.2.2.2.1 ∈ zGW := z_in3 (List.mem_of_getElem? (i := 42) rfl) rfl
def m_Se_leaveWaiting : zM := (y_Se_leaveWaiting, prog_8_method_4_code, 3, (none : Option FieldType), 0, 0)
theorem wc_Se_leaveWaiting : Cond.code m_Se_leaveWaiting.1 m_Se_leaveWaiting.2.1 m_Se_leaveWaiting.2.2.1 m_Se_leaveWaiting.2.2.2.1 ∈ zGW := z_in3 (List.mem_of_getElem? (i := 50) rfl) rfl
def m_St_textLength : zM := (y_St_textLength, prog_9_method_4_code, 3, (some FieldType.int), 0, 0)
theorem wc_St_textLength : Cond.code m_St_textLength.1 m_St_textLength.2.1 m_St_textLength.2.2.1 m_St_textLength.2.2.2.1 ∈ zGW := z_in3 (List.mem_of_getElem? (i := 58) rfl) rfl
def m_Se_makeStep : zM := (y_Se_makeStep, prog_8_method_6_code, 1, (some FieldType.boolean), 0, 0)
theorem wc_Se_makeStep : Cond.code m_Se_makeStep.1 m_Se_makeStep.2.1 m_Se_makeStep.2.2.1 m_Se_makeStep.2.2.2.1 ∈ zGW := z_in3 (List.mem_of_getElem? (i := 62) rfl) rfl
def m_St_textCharacter : zM := (y_St_textCharacter, prog_9_method_5_code, 4, (some FieldType.char), 0, 0)
theorem wc_St_textCharacter : Cond.code m_St_textCharacter.1 m_St_textCharacter.2.1 m_St_textCharacter.2.2.1 m_St_textCharacter.2.2.2.1 ∈ zGW := z_in3 (List.mem_of_getElem? (i := 66) rfl) rfl
def m_Se_fitsText : zM := (y_Se_fitsText, prog_8_method_8_code, 8, (some FieldType.boolean), 1, 23)
theorem wc_Se_fitsText : Cond.code m_Se_fitsText.1 m_Se_fitsText.2.1 m_Se_fitsText.2.2.1 m_Se_fitsText.2.2.2.1 ∈ zGW := z_in3 (List.mem_of_getElem? (i := 54) rfl) rfl
def m_Pt_isInSet : zM := (y_Pt_isInSet, prog_6_method_6_code, 6, (some FieldType.boolean), 0, 0)
theorem wc_Pt_isInSet : Cond.code m_Pt_isInSet.1 m_Pt_isInSet.2.1 m_Pt_isInSet.2.2.1 m_Pt_isInSet.2.2.2.1 ∈ zGW := z_in3 (List.mem_of_getElem? (i := 74) rfl) rfl
def m_Se_fitsAtom : zM := (y_Se_fitsAtom, prog_8_method_7_code, 6, (some FieldType.boolean), 1, 25)
theorem wc_Se_fitsAtom : Cond.code m_Se_fitsAtom.1 m_Se_fitsAtom.2.1 m_Se_fitsAtom.2.2.1 m_Se_fitsAtom.2.2.2.1 ∈ zGW := z_in3 (List.mem_of_getElem? (i := 70) rfl) rfl
def m_Se_goBack : zM := (y_Se_goBack, prog_8_method_5_code, 4, (some FieldType.boolean), 0, 0)
theorem wc_Se_goBack : Cond.code m_Se_goBack.1 m_Se_goBack.2.1 m_Se_goBack.2.2.1 m_Se_goBack.2.2.2.1 ∈ zGW := z_in3 (List.mem_of_getElem? (i := 78) rfl) rfl
def m_Se_doNext : zM := (y_Se_doNext, prog_8_method_3_code, 6, (some FieldType.boolean), 2, 50)
theorem wc_Se_doNext : Cond.code m_Se_doNext.1 m_Se_doNext.2.1 m_Se_doNext.2.2.1 m_Se_doNext.2.2.2.1 ∈ zGW := z_in3 (List.mem_of_getElem? (i := 46) rfl) rfl
def m_Se_run : zM := (y_Se_run, prog_8_method_2_code, 8, (none : Option FieldType), 3, 75)
theorem wc_Se_run : Cond.code m_Se_run.1 m_Se_run.2.1 m_Se_run.2.2.1 m_Se_run.2.2.2.1 ∈ zGW := z_in3 (List.mem_of_getElem? (i := 39) rfl) rfl
def m_Gr_keepWinner : zM := (y_Gr_keepWinner, prog_2_method_10_code, 2, (none : Option FieldType), 1, 26)
theorem wc_Gr_keepWinner : Cond.code m_Gr_keepWinner.1 m_Gr_keepWinner.2.1 m_Gr_keepWinner.2.2.1 m_Gr_keepWinner.2.2.2.1 ∈ zGW := z_in3 (List.mem_of_getElem? (i := 82) rfl) rfl
def m_Gr_findWinner : zM := (y_Gr_findWinner, prog_2_method_7_code, 7, (some FieldType.boolean), 4, 102)
theorem wc_Gr_findWinner : Cond.code m_Gr_findWinner.1 m_Gr_findWinner.2.1 m_Gr_findWinner.2.2.1 m_Gr_findWinner.2.2.2.1 ∈ zGW := z_in3 (List.mem_of_getElem? (i := 23) rfl) rfl
def m_Li_addToken : zM := (y_Li_addToken, prog_3_method_3_code, 2, (none : Option FieldType), 0, 0)
theorem wc_Li_addToken : Cond.code m_Li_addToken.1 m_Li_addToken.2.1 m_Li_addToken.2.2.1 m_Li_addToken.2.2.2.1 ∈ zGW := z_in3 (List.mem_of_getElem? (i := 95) rfl) rfl
def m_Li_addScope : zM := (y_Li_addScope, prog_3_method_4_code, 3, (none : Option FieldType), 0, 0)
theorem wc_Li_addScope : Cond.code m_Li_addScope.1 m_Li_addScope.2.1 m_Li_addScope.2.2.1 m_Li_addScope.2.2.2.1 ∈ zGW := z_in3 (List.mem_of_getElem? (i := 99) rfl) rfl
def m_Gr_cut : zM := (y_Gr_cut, prog_2_method_13_code, 5, (some FieldType.boolean), 1, 22)
theorem wc_Gr_cut : Cond.code m_Gr_cut.1 m_Gr_cut.2.1 m_Gr_cut.2.2.1 m_Gr_cut.2.2.2.1 ∈ zGW := z_in3 (List.mem_of_getElem? (i := 91) rfl) rfl
def m_Gr_mark : zM := (y_Gr_mark, prog_2_method_6_code, 3, (none : Option FieldType), 2, 47)
theorem wc_Gr_mark : Cond.code m_Gr_mark.1 m_Gr_mark.2.1 m_Gr_mark.2.2.1 m_Gr_mark.2.2.2.1 ∈ zGW := z_in3 (List.mem_of_getElem? (i := 87) rfl) rfl
def m_Gr_isLast : zM := (y_Gr_isLast, prog_2_method_11_code, 4, (some FieldType.boolean), 0, 0)
theorem wc_Gr_isLast : Cond.code m_Gr_isLast.1 m_Gr_isLast.2.1 m_Gr_isLast.2.2.1 m_Gr_isLast.2.2.2.1 ∈ zGW := z_in3 (List.mem_of_getElem? (i := 103) rfl) rfl
def m_St_push : zM := (y_St_push, prog_9_method_6_code, 2, (none : Option FieldType), 0, 0)
theorem wc_St_push : Cond.code m_St_push.1 m_St_push.2.1 m_St_push.2.2.1 m_St_push.2.2.2.1 ∈ zGW := z_in3 (List.mem_of_getElem? (i := 111) rfl) rfl
def m_St_keepText : zM := (y_St_keepText, prog_9_method_7_code, 8, (none : Option FieldType), 0, 0)
theorem wc_St_keepText : Cond.code m_St_keepText.1 m_St_keepText.2.1 m_St_keepText.2.2.1 m_St_keepText.2.2.2.1 ∈ zGW := z_in3 (List.mem_of_getElem? (i := 115) rfl) rfl
def m_Gr_takeWinner : zM := (y_Gr_takeWinner, prog_2_method_12_code, 2, (none : Option FieldType), 2, 46)
theorem wc_Gr_takeWinner : Cond.code m_Gr_takeWinner.1 m_Gr_takeWinner.2.1 m_Gr_takeWinner.2.2.1 m_Gr_takeWinner.2.2.2.1 ∈ zGW := z_in3 (List.mem_of_getElem? (i := 107) rfl) rfl
def m_Gr_tokenize : zM := (y_Gr_tokenize, prog_2_method_5_code, 6, (none : Option FieldType), 5, 128)
theorem wc_Gr_tokenize : Cond.code m_Gr_tokenize.1 m_Gr_tokenize.2.1 m_Gr_tokenize.2.2.1 m_Gr_tokenize.2.2.2.1 ∈ zGW := z_in3 (List.mem_of_getElem? (i := 18) rfl) rfl
def m_St_isSameText : zM := (y_St_isSameText, prog_9_method_10_code, 5, (some FieldType.boolean), 0, 0)
theorem wc_St_isSameText : Cond.code m_St_isSameText.1 m_St_isSameText.2.1 m_St_isSameText.2.2.1 m_St_isSameText.2.2.2.1 ∈ zGW := z_in3 (List.mem_of_getElem? (i := 123) rfl) rfl
def m_St_isSame : zM := (y_St_isSame, prog_9_method_9_code, 4, (some FieldType.boolean), 1, 24)
theorem wc_St_isSame : Cond.code m_St_isSame.1 m_St_isSame.2.1 m_St_isSame.2.2.1 m_St_isSame.2.2.2.1 ∈ zGW := z_in3 (List.mem_of_getElem? (i := 119) rfl) rfl
def m_SL_tokenizeFrom : zM := (y_SL_tokenizeFrom, prog_1_method_23_code, 7, (some FieldType.int), 6, 153)
theorem wc_SL_tokenizeFrom : Cond.code m_SL_tokenizeFrom.1 m_SL_tokenizeFrom.2.1 m_SL_tokenizeFrom.2.2.1 m_SL_tokenizeFrom.2.2.2.1 ∈ zGW := z_in3 (List.mem_of_getElem? (i := 9) rfl) rfl
def m_SL_piece : zM := (y_SL_piece, prog_1_method_4_code, 4, (some FieldType.int), 7, 179)
theorem wc_SL_piece : Cond.code m_SL_piece.1 m_SL_piece.2.1 m_SL_piece.2.2.1 m_SL_piece.2.2.2.1 ∈ zGW := z_in2 (List.mem_of_getElem? (i := 136) rfl) rfl
def m_SL_firstBlank : zM := (y_SL_firstBlank, prog_1_method_21_code, 2, (some FieldType.int), 0, 0)
theorem wc_SL_firstBlank : Cond.code m_SL_firstBlank.1 m_SL_firstBlank.2.1 m_SL_firstBlank.2.2.1 m_SL_firstBlank.2.2.2.1 ∈ zGW := z_in3 (List.mem_of_getElem? (i := 131) rfl) rfl
def m_SL_range : zM := (y_SL_range, prog_1_method_5_code, 6, (some FieldType.int), 7, 179)
theorem wc_SL_range : Cond.code m_SL_range.1 m_SL_range.2.1 m_SL_range.2.2.1 m_SL_range.2.2.2.1 ∈ zGW := z_in3 (List.mem_of_getElem? (i := 127) rfl) rfl
def m_SL_include : zM := (y_SL_include, prog_1_method_6_code, 3, (some FieldType.boolean), 7, 179)
theorem wc_SL_include : Cond.code m_SL_include.1 m_SL_include.2.1 m_SL_include.2.2.1 m_SL_include.2.2.2.1 ∈ zGW := z_in3 (List.mem_of_getElem? (i := 135) rfl) rfl
def m_Pa_add : zM := (y_Pa_add, prog_4_method_2_code, 4, (none : Option FieldType), 0, 0)
theorem wc_Pa_add : Cond.code m_Pa_add.1 m_Pa_add.2.1 m_Pa_add.2.2.1 m_Pa_add.2.2.2.1 ∈ zGW := z_in3 (List.mem_of_getElem? (i := 143) rfl) rfl
def m_SL_theme : zM := (y_SL_theme, prog_1_method_7_code, 4, (some FieldType.boolean), 1, 23)
theorem wc_SL_theme : Cond.code m_SL_theme.1 m_SL_theme.2.1 m_SL_theme.2.2.1 m_SL_theme.2.2.2.1 ∈ zGW := z_in3 (List.mem_of_getElem? (i := 139) rfl) rfl
def m_Li_write : zM := (y_Li_write, prog_3_method_2_code, 3, (none : Option FieldType), 1, 26)
theorem wc_Li_write : Cond.code m_Li_write.1 m_Li_write.2.1 m_Li_write.2.2.1 m_Li_write.2.2.2.1 ∈ zGW := z_in3 (List.mem_of_getElem? (i := 151) rfl) rfl
def m_SL_put : zM := (y_SL_put, prog_1_method_8_code, 2, (some FieldType.int), 7, 179)
theorem wc_SL_put : Cond.code m_SL_put.1 m_SL_put.2.1 m_SL_put.2.2.1 m_SL_put.2.2.2.1 ∈ zGW := z_in3 (List.mem_of_getElem? (i := 147) rfl) rfl
def m_SL_isLine : zM := (y_SL_isLine, prog_1_method_19_code, 2, (some FieldType.boolean), 0, 0)
theorem wc_SL_isLine : Cond.code m_SL_isLine.1 m_SL_isLine.2.1 m_SL_isLine.2.2.1 m_SL_isLine.2.2.2.1 ∈ zGW := z_in3 (List.mem_of_getElem? (i := 160) rfl) rfl
def m_SL_drop : zM := (y_SL_drop, prog_1_method_9_code, 4, (some FieldType.int), 7, 179)
theorem wc_SL_drop : Cond.code m_SL_drop.1 m_SL_drop.2.1 m_SL_drop.2.2.1 m_SL_drop.2.2.2.1 ∈ zGW := z_in3 (List.mem_of_getElem? (i := 156) rfl) rfl
def m_SL_lines : zM := (y_SL_lines, prog_1_method_10_code, 1, (some FieldType.int), 0, 0)
theorem wc_SL_lines : Cond.code m_SL_lines.1 m_SL_lines.2.1 m_SL_lines.2.2.1 m_SL_lines.2.2.2.1 ∈ zGW := z_in3 (List.mem_of_getElem? (i := 164) rfl) rfl
def m_SL_passes : zM := (y_SL_passes, prog_1_method_11_code, 1, (some FieldType.int), 0, 0)
theorem wc_SL_passes : Cond.code m_SL_passes.1 m_SL_passes.2.1 m_SL_passes.2.2.1 m_SL_passes.2.2.2.1 ∈ zGW := z_in3 (List.mem_of_getElem? (i := 168) rfl) rfl
def m_SL_length : zM := (y_SL_length, prog_1_method_12_code, 2, (some FieldType.int), 1, 21)
theorem wc_SL_length : Cond.code m_SL_length.1 m_SL_length.2.1 m_SL_length.2.2.1 m_SL_length.2.2.2.1 ∈ zGW := z_in3 (List.mem_of_getElem? (i := 172) rfl) rfl
def m_SL_tokens : zM := (y_SL_tokens, prog_1_method_13_code, 2, (some FieldType.int), 1, 21)
theorem wc_SL_tokens : Cond.code m_SL_tokens.1 m_SL_tokens.2.1 m_SL_tokens.2.2.1 m_SL_tokens.2.2.2.1 ∈ zGW := z_in3 (List.mem_of_getElem? (i := 176) rfl) rfl
def m_Li_scopeOf : zM := (y_Li_scopeOf, prog_3_method_5_code, 3, (some FieldType.int), 0, 0)
theorem wc_Li_scopeOf : Cond.code m_Li_scopeOf.1 m_Li_scopeOf.2.1 m_Li_scopeOf.2.2.1 m_Li_scopeOf.2.2.2.1 ∈ zGW := z_in3 (List.mem_of_getElem? (i := 188) rfl) rfl
def m_Li_lastScope : zM := (y_Li_lastScope, prog_3_method_6_code, 2, (some FieldType.int), 1, 22)
theorem wc_Li_lastScope : Cond.code m_Li_lastScope.1 m_Li_lastScope.2.1 m_Li_lastScope.2.2.1 m_Li_lastScope.2.2.2.1 ∈ zGW := z_in3 (List.mem_of_getElem? (i := 184) rfl) rfl
def m_Pa_isUnder : zM := (y_Pa_isUnder, prog_4_method_5_code, 6, (some FieldType.boolean), 1, 22)
theorem wc_Pa_isUnder : Cond.code m_Pa_isUnder.1 m_Pa_isUnder.2.1 m_Pa_isUnder.2.2.1 m_Pa_isUnder.2.2.2.1 ∈ zGW := z_in3 (List.mem_of_getElem? (i := 200) rfl) rfl
def m_Pa_entryFor : zM := (y_Pa_entryFor, prog_4_method_4_code, 7, (some FieldType.int), 2, 47)
theorem wc_Pa_entryFor : Cond.code m_Pa_entryFor.1 m_Pa_entryFor.2.1 m_Pa_entryFor.2.2.1 m_Pa_entryFor.2.2.2.1 ∈ zGW := z_in3 (List.mem_of_getElem? (i := 196) rfl) rfl
def m_Pa_colourOf : zM := (y_Pa_colourOf, prog_4_method_3_code, 5, (some FieldType.int), 3, 73)
theorem wc_Pa_colourOf : Cond.code m_Pa_colourOf.1 m_Pa_colourOf.2.1 m_Pa_colourOf.2.2.1 m_Pa_colourOf.2.2.2.1 ∈ zGW := z_in3 (List.mem_of_getElem? (i := 192) rfl) rfl
def m_SL_token : zM := (y_SL_token, prog_1_method_14_code, 5, (some FieldType.int), 4, 97)
theorem wc_SL_token : Cond.code m_SL_token.1 m_SL_token.2.1 m_SL_token.2.2.1 m_SL_token.2.2.2.1 ∈ zGW := z_in3 (List.mem_of_getElem? (i := 180) rfl) rfl
def m_SL_marked : zM := (y_SL_marked, prog_1_method_15_code, 2, (some FieldType.boolean), 1, 21)
theorem wc_SL_marked : Cond.code m_SL_marked.1 m_SL_marked.2.1 m_SL_marked.2.2.1 m_SL_marked.2.2.2.1 ∈ zGW := z_in3 (List.mem_of_getElem? (i := 204) rfl) rfl
def m_St_isOpen : zM := (y_St_isOpen, prog_9_method_2_code, 2, (some FieldType.boolean), 0, 0)
theorem wc_St_isOpen : Cond.code m_St_isOpen.1 m_St_isOpen.2.1 m_St_isOpen.2.2.1 m_St_isOpen.2.2.2.1 ∈ zGW := z_in3 (List.mem_of_getElem? (i := 212) rfl) rfl
def m_SL_state : zM := (y_SL_state, prog_1_method_16_code, 4, (some FieldType.int), 1, 21)
theorem wc_SL_state : Cond.code m_SL_state.1 m_SL_state.2.1 m_SL_state.2.2.1 m_SL_state.2.2.2.1 ∈ zGW := z_in3 (List.mem_of_getElem? (i := 208) rfl) rfl
def m_SL_text : zM := (y_SL_text, prog_1_method_17_code, 4, (some FieldType.int), 1, 22)
theorem wc_SL_text : Cond.code m_SL_text.1 m_SL_text.2.1 m_SL_text.2.2.1 m_SL_text.2.2.2.1 ∈ zGW := z_in3 (List.mem_of_getElem? (i := 216) rfl) rfl
def m_SL_find : zM := (y_SL_find, prog_1_method_18_code, 6, (some FieldType.int), 4, 102)
theorem wc_SL_find : Cond.code m_SL_find.1 m_SL_find.2.1 m_SL_find.2.2.1 m_SL_find.2.2.2.1 ∈ zGW := z_in3 (List.mem_of_getElem? (i := 221) rfl) rfl
def m_Mo_init : zM := (y_Mo_init, prog_11_method_1_code, 3, (none : Option FieldType), 1, 26)
theorem wc_Mo_init : Cond.code m_Mo_init.1 m_Mo_init.2.1 m_Mo_init.2.2.1 m_Mo_init.2.2.2.1 ∈ zGW := z_in3 (List.mem_of_getElem? (i := 230) rfl) rfl
def m_Mo_type : zM := (y_Mo_type, prog_11_method_2_code, 6, (some FieldType.boolean), 0, 0)
theorem wc_Mo_type : Cond.code m_Mo_type.1 m_Mo_type.2.1 m_Mo_type.2.2.1 m_Mo_type.2.2.2.1 ∈ zGW := z_in4 (List.mem_of_getElem? (i := 152) rfl) rfl
def m_Mo_wipe : zM := (y_Mo_wipe, prog_11_method_3_code, 1, (none : Option FieldType), 0, 0)
theorem wc_Mo_wipe : Cond.code m_Mo_wipe.1 m_Mo_wipe.2.1 m_Mo_wipe.2.2.1 m_Mo_wipe.2.2.2.1 ∈ zGW := z_in4 (List.mem_of_getElem? (i := 156) rfl) rfl
def m_Mo_quantifier : zM := (y_Mo_quantifier, prog_11_method_4_code, 1, (some FieldType.boolean), 0, 0)
theorem wc_Mo_quantifier : Cond.code m_Mo_quantifier.1 m_Mo_quantifier.2.1 m_Mo_quantifier.2.2.1 m_Mo_quantifier.2.2.2.1 ∈ zGW := z_in4 (List.mem_of_getElem? (i := 207) rfl) rfl
def m_Mo_at : zM := (y_Mo_at, prog_11_method_5_code, 3, (some FieldType.int), 0, 0)
theorem wc_Mo_at : Cond.code m_Mo_at.1 m_Mo_at.2.1 m_Mo_at.2.2.1 m_Mo_at.2.2.2.1 ∈ zGW := z_in4 (List.mem_of_getElem? (i := 180) rfl) rfl
def m_Mo_items : zM := (y_Mo_items, prog_11_method_6_code, 6, (some FieldType.int), 1, 22)
theorem wc_Mo_items : Cond.code m_Mo_items.1 m_Mo_items.2.1 m_Mo_items.2.2.1 m_Mo_items.2.2.2.1 ∈ zGW := z_in4 (List.mem_of_getElem? (i := 204) rfl) rfl
def m_Mo_simple : zM := (y_Mo_simple, prog_11_method_7_code, 7, (some FieldType.int), 2, 47)
theorem wc_Mo_simple : Cond.code m_Mo_simple.1 m_Mo_simple.2.1 m_Mo_simple.2.2.1 m_Mo_simple.2.2.2.1 ∈ zGW := z_in4 (List.mem_of_getElem? (i := 200) rfl) rfl
def m_Mo_isRef : zM := (y_Mo_isRef, prog_11_method_8_code, 3, (some FieldType.boolean), 1, 22)
theorem wc_Mo_isRef : Cond.code m_Mo_isRef.1 m_Mo_isRef.2.1 m_Mo_isRef.2.2.1 m_Mo_isRef.2.2.2.1 ∈ zGW := z_in4 (List.mem_of_getElem? (i := 196) rfl) rfl
def m_Mo_quantified : zM := (y_Mo_quantified, prog_11_method_9_code, 10, (some FieldType.int), 2, 44)
theorem wc_Mo_quantified : Cond.code m_Mo_quantified.1 m_Mo_quantified.2.1 m_Mo_quantified.2.2.1 m_Mo_quantified.2.2.2.1 ∈ zGW := z_in4 (List.mem_of_getElem? (i := 192) rfl) rfl
def m_Mo_openLevel : zM := (y_Mo_openLevel, prog_11_method_10_code, 3, (none : Option FieldType), 0, 0)
theorem wc_Mo_openLevel : Cond.code m_Mo_openLevel.1 m_Mo_openLevel.2.1 m_Mo_openLevel.2.2.1 m_Mo_openLevel.2.2.2.1 ∈ zGW := z_in4 (List.mem_of_getElem? (i := 184) rfl) rfl
def m_Mo_note : zM := (y_Mo_note, prog_11_method_11_code, 4, (none : Option FieldType), 0, 0)
theorem wc_Mo_note : Cond.code m_Mo_note.1 m_Mo_note.2.1 m_Mo_note.2.2.1 m_Mo_note.2.2.2.1 ∈ zGW := z_in4 (List.mem_of_getElem? (i := 188) rfl) rfl
def m_Mo_parse : zM := (y_Mo_parse, prog_11_method_12_code, 11, (some FieldType.boolean), 3, 73)
theorem wc_Mo_parse : Cond.code m_Mo_parse.1 m_Mo_parse.2.1 m_Mo_parse.2.2.1 m_Mo_parse.2.2.2.1 ∈ zGW := z_in4 (List.mem_of_getElem? (i := 176) rfl) rfl
def m_Mo_inItems : zM := (y_Mo_inItems, prog_11_method_13_code, 11, (some FieldType.boolean), 1, 22)
theorem wc_Mo_inItems : Cond.code m_Mo_inItems.1 m_Mo_inItems.2.1 m_Mo_inItems.2.2.1 m_Mo_inItems.2.2.2.1 ∈ zGW := z_in5 (List.mem_of_getElem? (i := 27) rfl) rfl
def m_Mo_push : zM := (y_Mo_push, prog_11_method_14_code, 6, (none : Option FieldType), 0, 0)
theorem wc_Mo_push : Cond.code m_Mo_push.1 m_Mo_push.2.1 m_Mo_push.2.2.1 m_Mo_push.2.2.2.1 ∈ zGW := z_in5 (List.mem_of_getElem? (i := 11) rfl) rfl
def m_Mo_step : zM := (y_Mo_step, prog_11_method_15_code, 1, (some FieldType.boolean), 0, 0)
theorem wc_Mo_step : Cond.code m_Mo_step.1 m_Mo_step.2.1 m_Mo_step.2.2.1 m_Mo_step.2.2.2.1 ∈ zGW := z_in5 (List.mem_of_getElem? (i := 23) rfl) rfl
def m_Mo_fits : zM := (y_Mo_fits, prog_11_method_16_code, 9, (some FieldType.int), 2, 52)
theorem wc_Mo_fits : Cond.code m_Mo_fits.1 m_Mo_fits.2.1 m_Mo_fits.2.2.1 m_Mo_fits.2.2.2.1 ∈ zGW := z_in5 (List.mem_of_getElem? (i := 19) rfl) rfl
def m_Mo_ended : zM := (y_Mo_ended, prog_11_method_18_code, 4, (some FieldType.boolean), 1, 22)
theorem wc_Mo_ended : Cond.code m_Mo_ended.1 m_Mo_ended.2.1 m_Mo_ended.2.2.1 m_Mo_ended.2.2.2.1 ∈ zGW := z_in5 (List.mem_of_getElem? (i := 15) rfl) rfl
def m_Mo_match : zM := (y_Mo_match, prog_11_method_17_code, 11, (none : Option FieldType), 3, 80)
theorem wc_Mo_match : Cond.code m_Mo_match.1 m_Mo_match.2.1 m_Mo_match.2.2.1 m_Mo_match.2.2.2.1 ∈ zGW := z_in5 (List.mem_of_getElem? (i := 7) rfl) rfl
def m_Mo_search : zM := (y_Mo_search, prog_11_method_19_code, 5, (none : Option FieldType), 4, 110)
theorem wc_Mo_search : Cond.code m_Mo_search.1 m_Mo_search.2.1 m_Mo_search.2.2.1 m_Mo_search.2.2.2.1 ∈ zGW := z_in5 (List.mem_of_getElem? (i := 3) rfl) rfl
def m_Mo_copyState : zM := (y_Mo_copyState, prog_11_method_20_code, 5, (none : Option FieldType), 0, 0)
theorem wc_Mo_copyState : Cond.code m_Mo_copyState.1 m_Mo_copyState.2.1 m_Mo_copyState.2.2.1 m_Mo_copyState.2.2.2.1 ∈ zGW := z_in4 (List.mem_of_getElem? (i := 227) rfl) rfl
def m_Mo_sameState : zM := (y_Mo_sameState, prog_11_method_21_code, 6, (some FieldType.boolean), 0, 0)
theorem wc_Mo_sameState : Cond.code m_Mo_sameState.1 m_Mo_sameState.2.1 m_Mo_sameState.2.2.1 m_Mo_sameState.2.2.2.1 ∈ zGW := z_in5 (List.mem_of_getElem? (i := 59) rfl) rfl
def m_Mo_begin : zM := (y_Mo_begin, prog_11_method_22_code, 2, (none : Option FieldType), 1, 24)
theorem wc_Mo_begin : Cond.code m_Mo_begin.1 m_Mo_begin.2.1 m_Mo_begin.2.2.1 m_Mo_begin.2.2.2.1 ∈ zGW := z_in4 (List.mem_of_getElem? (i := 223) rfl) rfl
def m_Mo_addRules : zM := (y_Mo_addRules, prog_11_method_23_code, 5, (some FieldType.int), 0, 0)
theorem wc_Mo_addRules : Cond.code m_Mo_addRules.1 m_Mo_addRules.2.1 m_Mo_addRules.2.2.1 m_Mo_addRules.2.2.2.1 ∈ zGW := z_in4 (List.mem_of_getElem? (i := 239) rfl) rfl
def m_Mo_gather : zM := (y_Mo_gather, prog_11_method_24_code, 6, (some FieldType.int), 1, 24)
theorem wc_Mo_gather : Cond.code m_Mo_gather.1 m_Mo_gather.2.1 m_Mo_gather.2.2.1 m_Mo_gather.2.2.2.1 ∈ zGW := z_in4 (List.mem_of_getElem? (i := 235) rfl) rfl
def m_Mo_findBest : zM := (y_Mo_findBest, prog_11_method_25_code, 6, (some FieldType.boolean), 5, 134)
theorem wc_Mo_findBest : Cond.code m_Mo_findBest.1 m_Mo_findBest.2.1 m_Mo_findBest.2.2.1 m_Mo_findBest.2.2.2.1 ∈ zGW := z_in4 (List.mem_of_getElem? (i := 231) rfl) rfl
def m_Mo_cutOff : zM := (y_Mo_cutOff, prog_11_method_26_code, 7, (none : Option FieldType), 0, 0)
theorem wc_Mo_cutOff : Cond.code m_Mo_cutOff.1 m_Mo_cutOff.2.1 m_Mo_cutOff.2.2.1 m_Mo_cutOff.2.2.2.1 ∈ zGW := z_in5 (List.mem_of_getElem? (i := 31) rfl) rfl
def m_Mo_openRange : zM := (y_Mo_openRange, prog_11_method_27_code, 8, (none : Option FieldType), 0, 0)
theorem wc_Mo_openRange : Cond.code m_Mo_openRange.1 m_Mo_openRange.2.1 m_Mo_openRange.2.2.1 m_Mo_openRange.2.2.2.1 ∈ zGW := z_in5 (List.mem_of_getElem? (i := 35) rfl) rfl
def m_Mo_tokenize : zM := (y_Mo_tokenize, prog_11_method_28_code, 8, (none : Option FieldType), 6, 159)
theorem wc_Mo_tokenize : Cond.code m_Mo_tokenize.1 m_Mo_tokenize.2.1 m_Mo_tokenize.2.2.1 m_Mo_tokenize.2.2.2.1 ∈ zGW := z_in4 (List.mem_of_getElem? (i := 219) rfl) rfl
def m_Mo_refresh : zM := (y_Mo_refresh, prog_11_method_29_code, 5, (some FieldType.int), 7, 186)
theorem wc_Mo_refresh : Cond.code m_Mo_refresh.1 m_Mo_refresh.2.1 m_Mo_refresh.2.2.1 m_Mo_refresh.2.2.2.1 ∈ zGW := z_in5 (List.mem_of_getElem? (i := 55) rfl) rfl
def m_Mo_refreshAll : zM := (y_Mo_refreshAll, prog_11_method_30_code, 2, (none : Option FieldType), 7, 186)
theorem wc_Mo_refreshAll : Cond.code m_Mo_refreshAll.1 m_Mo_refreshAll.2.1 m_Mo_refreshAll.2.2.1 m_Mo_refreshAll.2.2.2.1 ∈ zGW := z_in4 (List.mem_of_getElem? (i := 215) rfl) rfl
def m_Mo_lift : zM := (y_Mo_lift, prog_11_method_31_code, 6, (none : Option FieldType), 0, 0)
theorem wc_Mo_lift : Cond.code m_Mo_lift.1 m_Mo_lift.2.1 m_Mo_lift.2.2.1 m_Mo_lift.2.2.2.1 ∈ zGW := z_in4 (List.mem_of_getElem? (i := 172) rfl) rfl
def m_Mo_isRangeNumber : zM := (y_Mo_isRangeNumber, prog_11_method_32_code, 2, (some FieldType.boolean), 0, 0)
theorem wc_Mo_isRangeNumber : Cond.code m_Mo_isRangeNumber.1 m_Mo_isRangeNumber.2.1 m_Mo_isRangeNumber.2.2.1 m_Mo_isRangeNumber.2.2.2.1 ∈ zGW := z_in4 (List.mem_of_getElem? (i := 164) rfl) rfl
def m_Mo_isPattern : zM := (y_Mo_isPattern, prog_11_method_33_code, 4, (some FieldType.boolean), 4, 103)
theorem wc_Mo_isPattern : Cond.code m_Mo_isPattern.1 m_Mo_isPattern.2.1 m_Mo_isPattern.2.2.1 m_Mo_isPattern.2.2.2.1 ∈ zGW := z_in4 (List.mem_of_getElem? (i := 168) rfl) rfl
def m_Mo_make : zM := (y_Mo_make, prog_11_method_34_code, 6, (some FieldType.int), 8, 207)
theorem wc_Mo_make : Cond.code m_Mo_make.1 m_Mo_make.2.1 m_Mo_make.2.2.1 m_Mo_make.2.2.2.1 ∈ zGW := z_in4 (List.mem_of_getElem? (i := 211) rfl) rfl
def m_Mo_piece : zM := (y_Mo_piece, prog_11_method_35_code, 3, (some FieldType.int), 9, 232)
theorem wc_Mo_piece : Cond.code m_Mo_piece.1 m_Mo_piece.2.1 m_Mo_piece.2.2.1 m_Mo_piece.2.2.2.1 ∈ zGW := z_in4 (List.mem_of_getElem? (i := 160) rfl) rfl
def m_Mo_range : zM := (y_Mo_range, prog_11_method_36_code, 4, (some FieldType.int), 9, 232)
theorem wc_Mo_range : Cond.code m_Mo_range.1 m_Mo_range.2.1 m_Mo_range.2.2.1 m_Mo_range.2.2.2.1 ∈ zGW := z_in5 (List.mem_of_getElem? (i := 39) rfl) rfl
def m_Mo_include : zM := (y_Mo_include, prog_11_method_37_code, 3, (some FieldType.boolean), 8, 207)
theorem wc_Mo_include : Cond.code m_Mo_include.1 m_Mo_include.2.1 m_Mo_include.2.2.1 m_Mo_include.2.2.2.1 ∈ zGW := z_in5 (List.mem_of_getElem? (i := 43) rfl) rfl
def m_Mo_theme : zM := (y_Mo_theme, prog_11_method_38_code, 4, (some FieldType.boolean), 0, 0)
theorem wc_Mo_theme : Cond.code m_Mo_theme.1 m_Mo_theme.2.1 m_Mo_theme.2.2.1 m_Mo_theme.2.2.2.1 ∈ zGW := z_in5 (List.mem_of_getElem? (i := 47) rfl) rfl
def m_Mo_put : zM := (y_Mo_put, prog_11_method_39_code, 3, (some FieldType.int), 8, 210)
theorem wc_Mo_put : Cond.code m_Mo_put.1 m_Mo_put.2.1 m_Mo_put.2.2.1 m_Mo_put.2.2.2.1 ∈ zGW := z_in5 (List.mem_of_getElem? (i := 51) rfl) rfl
def m_Mo_drop : zM := (y_Mo_drop, prog_11_method_40_code, 4, (some FieldType.int), 8, 210)
theorem wc_Mo_drop : Cond.code m_Mo_drop.1 m_Mo_drop.2.1 m_Mo_drop.2.2.1 m_Mo_drop.2.2.2.1 ∈ zGW := z_in5 (List.mem_of_getElem? (i := 63) rfl) rfl
def m_Mo_isLine : zM := (y_Mo_isLine, prog_11_method_41_code, 2, (some FieldType.boolean), 0, 0)
theorem wc_Mo_isLine : Cond.code m_Mo_isLine.1 m_Mo_isLine.2.1 m_Mo_isLine.2.2.1 m_Mo_isLine.2.2.2.1 ∈ zGW := z_in5 (List.mem_of_getElem? (i := 79) rfl) rfl
def m_Mo_lines : zM := (y_Mo_lines, prog_11_method_42_code, 1, (some FieldType.int), 0, 0)
theorem wc_Mo_lines : Cond.code m_Mo_lines.1 m_Mo_lines.2.1 m_Mo_lines.2.2.1 m_Mo_lines.2.2.2.1 ∈ zGW := z_in5 (List.mem_of_getElem? (i := 67) rfl) rfl
def m_Mo_passes : zM := (y_Mo_passes, prog_11_method_43_code, 1, (some FieldType.int), 0, 0)
theorem wc_Mo_passes : Cond.code m_Mo_passes.1 m_Mo_passes.2.1 m_Mo_passes.2.2.1 m_Mo_passes.2.2.2.1 ∈ zGW := z_in5 (List.mem_of_getElem? (i := 71) rfl) rfl
def m_Mo_length : zM := (y_Mo_length, prog_11_method_44_code, 2, (some FieldType.int), 1, 21)
theorem wc_Mo_length : Cond.code m_Mo_length.1 m_Mo_length.2.1 m_Mo_length.2.2.1 m_Mo_length.2.2.2.1 ∈ zGW := z_in5 (List.mem_of_getElem? (i := 75) rfl) rfl
def m_Mo_tokens : zM := (y_Mo_tokens, prog_11_method_45_code, 2, (some FieldType.int), 1, 21)
theorem wc_Mo_tokens : Cond.code m_Mo_tokens.1 m_Mo_tokens.2.1 m_Mo_tokens.2.2.1 m_Mo_tokens.2.2.2.1 ∈ zGW := z_in5 (List.mem_of_getElem? (i := 83) rfl) rfl
def m_Mo_entry : zM := (y_Mo_entry, prog_11_method_46_code, 8, (some FieldType.int), 0, 0)
theorem wc_Mo_entry : Cond.code m_Mo_entry.1 m_Mo_entry.2.1 m_Mo_entry.2.2.1 m_Mo_entry.2.2.2.1 ∈ zGW := z_in5 (List.mem_of_getElem? (i := 95) rfl) rfl
def m_Mo_colour : zM := (y_Mo_colour, prog_11_method_47_code, 4, (some FieldType.int), 1, 27)
theorem wc_Mo_colour : Cond.code m_Mo_colour.1 m_Mo_colour.2.1 m_Mo_colour.2.2.1 m_Mo_colour.2.2.2.1 ∈ zGW := z_in5 (List.mem_of_getElem? (i := 91) rfl) rfl
def m_Mo_token : zM := (y_Mo_token, prog_11_method_48_code, 6, (some FieldType.int), 2, 50)
theorem wc_Mo_token : Cond.code m_Mo_token.1 m_Mo_token.2.1 m_Mo_token.2.2.1 m_Mo_token.2.2.2.1 ∈ zGW := z_in5 (List.mem_of_getElem? (i := 87) rfl) rfl
def m_Mo_marked : zM := (y_Mo_marked, prog_11_method_49_code, 2, (some FieldType.boolean), 1, 21)
theorem wc_Mo_marked : Cond.code m_Mo_marked.1 m_Mo_marked.2.1 m_Mo_marked.2.2.1 m_Mo_marked.2.2.2.1 ∈ zGW := z_in5 (List.mem_of_getElem? (i := 99) rfl) rfl
def m_Mo_state : zM := (y_Mo_state, prog_11_method_50_code, 3, (some FieldType.int), 1, 21)
theorem wc_Mo_state : Cond.code m_Mo_state.1 m_Mo_state.2.1 m_Mo_state.2.2.1 m_Mo_state.2.2.2.1 ∈ zGW := z_in5 (List.mem_of_getElem? (i := 103) rfl) rfl
def m_Mo_text : zM := (y_Mo_text, prog_11_method_51_code, 4, (some FieldType.int), 1, 21)
theorem wc_Mo_text : Cond.code m_Mo_text.1 m_Mo_text.2.1 m_Mo_text.2.2.1 m_Mo_text.2.2.2.1 ∈ zGW := z_in5 (List.mem_of_getElem? (i := 107) rfl) rfl
def m_Mo_find : zM := (y_Mo_find, prog_11_method_52_code, 5, (some FieldType.int), 5, 134)
theorem wc_Mo_find : Cond.code m_Mo_find.1 m_Mo_find.2.1 m_Mo_find.2.2.1 m_Mo_find.2.2.2.1 ∈ zGW := z_in5 (List.mem_of_getElem? (i := 111) rfl) rfl
def m_Lw_cell : zM := (y_Lw_cell, method_2_code, 2, (some FieldType.int), 0, 0)
theorem wc_Lw_cell : Cond.code m_Lw_cell.1 m_Lw_cell.2.1 m_Lw_cell.2.2.1 m_Lw_cell.2.2.2.1 ∈ zGW := z_in3 (List.mem_of_getElem? (i := 225) rfl) rfl
def m_Lw_law : zM := (x, code, 4, ret, 10, 255)
theorem w_Pr_3 : Cond.methodLink "ScopeLines$Parser" 3 ⟨"java/lang/Object", "<init>", "()V"⟩ ∈ zGW := z_in1 (List.mem_of_getElem? (i := 27) rfl) rfl
theorem wf_Pr_9 : Cond.fieldLink "ScopeLines$Parser" 9 "ScopeLines$Parser" "source" "[C" ∈ zGW := z_in1 (List.mem_of_getElem? (i := 28) rfl) rfl
theorem fd_Pr_9 : zFd "ScopeLines$Parser" 9 5 0 (.array .char) true := ⟨R_Pr, T_Pr, 15, ck_Pr, by decide, by decide +kernel, rfl, rfl, Or.inl wf_Pr_9⟩
theorem wf_Pr_15 : Cond.fieldLink "ScopeLines$Parser" 15 "ScopeLines$Parser" "groupNumbers" "[I" ∈ zGW := z_in1 (List.mem_of_getElem? (i := 35) rfl) rfl
theorem fd_Pr_15 : zFd "ScopeLines$Parser" 15 5 7 (.array .int) true := ⟨R_Pr, T_Pr, 15, ck_Pr, by decide, by decide +kernel, rfl, rfl, Or.inl wf_Pr_15⟩
theorem wf_Pr_19 : Cond.fieldLink "ScopeLines$Parser" 19 "ScopeLines$Parser" "bodies" "[I" ∈ zGW := z_in1 (List.mem_of_getElem? (i := 36) rfl) rfl
theorem fd_Pr_19 : zFd "ScopeLines$Parser" 19 5 8 (.array .int) true := ⟨R_Pr, T_Pr, 15, ck_Pr, by decide, by decide +kernel, rfl, rfl, Or.inl wf_Pr_19⟩
theorem wf_Pr_22 : Cond.fieldLink "ScopeLines$Parser" 22 "ScopeLines$Parser" "branches" "[I" ∈ zGW := z_in1 (List.mem_of_getElem? (i := 37) rfl) rfl
theorem fd_Pr_22 : zFd "ScopeLines$Parser" 22 5 9 (.array .int) true := ⟨R_Pr, T_Pr, 15, ck_Pr, by decide, by decide +kernel, rfl, rfl, Or.inl wf_Pr_22⟩
theorem wf_Pr_25 : Cond.fieldLink "ScopeLines$Parser" 25 "ScopeLines$Parser" "endedBranches" "[I" ∈ zGW := z_in1 (List.mem_of_getElem? (i := 38) rfl) rfl
theorem fd_Pr_25 : zFd "ScopeLines$Parser" 25 5 10 (.array .int) true := ⟨R_Pr, T_Pr, 15, ck_Pr, by decide, by decide +kernel, rfl, rfl, Or.inl wf_Pr_25⟩
theorem wf_Pr_28 : Cond.fieldLink "ScopeLines$Parser" 28 "ScopeLines$Parser" "branchIsEmpty" "[Z" ∈ zGW := z_in1 (List.mem_of_getElem? (i := 39) rfl) rfl
theorem fd_Pr_28 : zFd "ScopeLines$Parser" 28 5 11 (.array .boolean) true := ⟨R_Pr, T_Pr, 15, ck_Pr, by decide, by decide +kernel, rfl, rfl, Or.inl wf_Pr_28⟩
theorem wf_Pr_32 : Cond.fieldLink "ScopeLines$Parser" 32 "ScopeLines$Parser" "someIsEmpty" "[Z" ∈ zGW := z_in1 (List.mem_of_getElem? (i := 40) rfl) rfl
theorem fd_Pr_32 : zFd "ScopeLines$Parser" 32 5 12 (.array .boolean) true := ⟨R_Pr, T_Pr, 15, ck_Pr, by decide, by decide +kernel, rfl, rfl, Or.inl wf_Pr_32⟩
theorem w_Pa_3 : Cond.methodLink "ScopeLines$Palette" 3 ⟨"java/lang/Object", "<init>", "()V"⟩ ∈ zGW := z_in1 (List.mem_of_getElem? (i := 84) rfl) rfl
theorem wf_Pa_9 : Cond.fieldLink "ScopeLines$Palette" 9 "ScopeLines$Palette" "scopes" "[I" ∈ zGW := z_in1 (List.mem_of_getElem? (i := 85) rfl) rfl
theorem fd_Pa_9 : zFd "ScopeLines$Palette" 9 3 0 (.array .int) true := ⟨R_Pa, T_Pa, 4, ck_Pa, by decide, by decide +kernel, rfl, rfl, Or.inl wf_Pa_9⟩
theorem wf_Pa_15 : Cond.fieldLink "ScopeLines$Palette" 15 "ScopeLines$Palette" "parents" "[I" ∈ zGW := z_in1 (List.mem_of_getElem? (i := 86) rfl) rfl
theorem fd_Pa_15 : zFd "ScopeLines$Palette" 15 3 1 (.array .int) true := ⟨R_Pa, T_Pa, 4, ck_Pa, by decide, by decide +kernel, rfl, rfl, Or.inl wf_Pa_15⟩
theorem wf_Pa_18 : Cond.fieldLink "ScopeLines$Palette" 18 "ScopeLines$Palette" "colours" "[I" ∈ zGW := z_in1 (List.mem_of_getElem? (i := 87) rfl) rfl
theorem fd_Pa_18 : zFd "ScopeLines$Palette" 18 3 2 (.array .int) true := ⟨R_Pa, T_Pa, 4, ck_Pa, by decide, by decide +kernel, rfl, rfl, Or.inl wf_Pa_18⟩
theorem w_St_3 : Cond.methodLink "ScopeLines$State" 3 ⟨"java/lang/Object", "<init>", "()V"⟩ ∈ zGW := z_in1 (List.mem_of_getElem? (i := 104) rfl) rfl
theorem wf_St_9 : Cond.fieldLink "ScopeLines$State" 9 "ScopeLines$State" "ranges" "[I" ∈ zGW := z_in1 (List.mem_of_getElem? (i := 109) rfl) rfl
theorem fd_St_9 : zFd "ScopeLines$State" 9 1 1 (.array .int) true := ⟨R_St, T_St, 4, ck_St, by decide, by decide +kernel, rfl, rfl, Or.inl wf_St_9⟩
theorem wf_St_15 : Cond.fieldLink "ScopeLines$State" 15 "ScopeLines$State" "textLengths" "[I" ∈ zGW := z_in1 (List.mem_of_getElem? (i := 112) rfl) rfl
theorem fd_St_15 : zFd "ScopeLines$State" 15 1 2 (.array .int) true := ⟨R_St, T_St, 4, ck_St, by decide, by decide +kernel, rfl, rfl, Or.inl wf_St_15⟩
theorem wf_St_18 : Cond.fieldLink "ScopeLines$State" 18 "ScopeLines$State" "texts" "[C" ∈ zGW := z_in1 (List.mem_of_getElem? (i := 113) rfl) rfl
theorem fd_St_18 : zFd "ScopeLines$State" 18 1 3 (.array .char) true := ⟨R_St, T_St, 4, ck_St, by decide, by decide +kernel, rfl, rfl, Or.inl wf_St_18⟩
theorem w_Se_5 : Cond.methodLink "ScopeLines$Search" 5 ⟨"java/lang/Object", "<init>", "()V"⟩ ∈ zGW := z_in1 (List.mem_of_getElem? (i := 144) rfl) rfl
theorem wf_Se_11 : Cond.fieldLink "ScopeLines$Search" 11 "ScopeLines$Search" "groups" "[I" ∈ zGW := z_in1 (List.mem_of_getElem? (i := 146) rfl) rfl
theorem fd_Se_11 : zFd "ScopeLines$Search" 11 6 1 (.array .int) true := ⟨R_Se, T_Se, 12, ck_Se, by decide, by decide +kernel, rfl, rfl, Or.inl wf_Se_11⟩
theorem wf_Se_17 : Cond.fieldLink "ScopeLines$Search" 17 "ScopeLines$Search" "waiting" "[I" ∈ zGW := z_in1 (List.mem_of_getElem? (i := 163) rfl) rfl
theorem fd_Se_17 : zFd "ScopeLines$Search" 17 6 9 (.array .int) true := ⟨R_Se, T_Se, 12, ck_Se, by decide, by decide +kernel, rfl, rfl, Or.inl wf_Se_17⟩
theorem wf_Se_20 : Cond.fieldLink "ScopeLines$Search" 20 "ScopeLines$Search" "waitingPlaces" "[I" ∈ zGW := z_in1 (List.mem_of_getElem? (i := 164) rfl) rfl
theorem fd_Se_20 : zFd "ScopeLines$Search" 20 6 10 (.array .int) true := ⟨R_Se, T_Se, 12, ck_Se, by decide, by decide +kernel, rfl, rfl, Or.inl wf_Se_20⟩
theorem wf_Se_23 : Cond.fieldLink "ScopeLines$Search" 23 "ScopeLines$Search" "budget" "I" ∈ zGW := z_in1 (List.mem_of_getElem? (i := 145) rfl) rfl
theorem fd_Se_23 : zFd "ScopeLines$Search" 23 6 0 (.int) true := ⟨R_Se, T_Se, 12, ck_Se, by decide, by decide +kernel, rfl, rfl, Or.inl wf_Se_23⟩
theorem w_Pt_3 : Cond.methodLink "ScopeLines$Pattern" 3 ⟨"java/lang/Object", "<init>", "()V"⟩ ∈ zGW := z_in1 (List.mem_of_getElem? (i := 201) rfl) rfl
theorem wf_Pt_11 : Cond.fieldLink "ScopeLines$Pattern" 11 "ScopeLines$Pattern" "ops" "[I" ∈ zGW := z_in1 (List.mem_of_getElem? (i := 202) rfl) rfl
theorem fd_Pt_11 : zFd "ScopeLines$Pattern" 11 4 0 (.array .int) true := ⟨R_Pt, T_Pt, 7, ck_Pt, by decide, by decide +kernel, rfl, rfl, Or.inl wf_Pt_11⟩
theorem wf_Pt_15 : Cond.fieldLink "ScopeLines$Pattern" 15 "ScopeLines$Pattern" "firsts" "[I" ∈ zGW := z_in1 (List.mem_of_getElem? (i := 205) rfl) rfl
theorem fd_Pt_15 : zFd "ScopeLines$Pattern" 15 4 1 (.array .int) true := ⟨R_Pt, T_Pt, 7, ck_Pt, by decide, by decide +kernel, rfl, rfl, Or.inl wf_Pt_15⟩
theorem wf_Pt_18 : Cond.fieldLink "ScopeLines$Pattern" 18 "ScopeLines$Pattern" "seconds" "[I" ∈ zGW := z_in1 (List.mem_of_getElem? (i := 207) rfl) rfl
theorem fd_Pt_18 : zFd "ScopeLines$Pattern" 18 4 2 (.array .int) true := ⟨R_Pt, T_Pt, 7, ck_Pt, by decide, by decide +kernel, rfl, rfl, Or.inl wf_Pt_18⟩
theorem wf_Pt_21 : Cond.fieldLink "ScopeLines$Pattern" 21 "ScopeLines$Pattern" "lowBits" "[J" ∈ zGW := z_in1 (List.mem_of_getElem? (i := 209) rfl) rfl
theorem fd_Pt_21 : zFd "ScopeLines$Pattern" 21 4 3 (.array .long) true := ⟨R_Pt, T_Pt, 7, ck_Pt, by decide, by decide +kernel, rfl, rfl, Or.inl wf_Pt_21⟩
theorem wf_Pt_25 : Cond.fieldLink "ScopeLines$Pattern" 25 "ScopeLines$Pattern" "highBits" "[J" ∈ zGW := z_in1 (List.mem_of_getElem? (i := 210) rfl) rfl
theorem fd_Pt_25 : zFd "ScopeLines$Pattern" 25 4 4 (.array .long) true := ⟨R_Pt, T_Pt, 7, ck_Pt, by decide, by decide +kernel, rfl, rfl, Or.inl wf_Pt_25⟩
theorem w_Ru_3 : Cond.methodLink "ScopeLines$Rule" 3 ⟨"java/lang/Object", "<init>", "()V"⟩ ∈ zGW := z_in1 (List.mem_of_getElem? (i := 195) rfl) rfl
theorem wk_Ru_9 : Cond.classLink "ScopeLines$Rule" 9 "ScopeLines$Pattern" ∈ zGW := z_in1 (List.mem_of_getElem? (i := 196) rfl) rfl
theorem wi_Pt : Cond.instantiable "ScopeLines$Pattern" 7 ∈ zGW := z_in1 (List.mem_of_getElem? (i := 197) rfl) rfl
theorem wn_Pt : Cond.initialized "ScopeLines$Pattern" ∈ zGW := z_in1 (List.mem_of_getElem? (i := 9) rfl) rfl
theorem nw_Ru_9 : zNw "ScopeLines$Rule" 9 4 7 := ⟨R_Pt, T_Pt, ck_Pt, df_Pt, wk_Ru_9, wi_Pt, wn_Pt⟩
theorem wj_Pt_init : Cond.instanceMethod ⟨"ScopeLines$Pattern", "<init>", "()V"⟩ ∈ zGW := z_in1 (List.mem_of_getElem? (i := 199) rfl) rfl
theorem cw_Ru_init_11 : zCw m_Ru_init m_Pt_init 11 2 0 0 := ⟨Or.inr ⟨"ScopeLines", List.mem_of_getElem? (i := 5) rfl⟩, wc_Pt_init, wn_Pt, ⟨by decide, by decide, by decide +kernel⟩, ⟨by decide, by decide⟩, (fun q => by cases q), (fun q => by cases q), (fun _ => ⟨rfl, rfl, wj_Pt_init⟩)⟩
theorem wf_Ru_12 : Cond.fieldLink "ScopeLines$Rule" 12 "ScopeLines$Rule" "pattern" "LScopeLines$Pattern;" ∈ zGW := z_in1 (List.mem_of_getElem? (i := 230) rfl) rfl
theorem fd_Ru_12 : zFd "ScopeLines$Rule" 12 7 0 (.object "ScopeLines$Pattern") true := ⟨R_Ru, T_Ru, 6, ck_Ru, by decide, by decide +kernel, rfl, rfl, Or.inl wf_Ru_12⟩
theorem wf_Ru_18 : Cond.fieldLink "ScopeLines$Rule" 18 "ScopeLines$Rule" "end" "LScopeLines$Pattern;" ∈ zGW := z_in1 (List.mem_of_getElem? (i := 233) rfl) rfl
theorem fd_Ru_18 : zFd "ScopeLines$Rule" 18 7 1 (.object "ScopeLines$Pattern") true := ⟨R_Ru, T_Ru, 6, ck_Ru, by decide, by decide +kernel, rfl, rfl, Or.inl wf_Ru_18⟩
theorem wf_Ru_21 : Cond.fieldLink "ScopeLines$Rule" 21 "ScopeLines$Rule" "included" "I" ∈ zGW := z_in1 (List.mem_of_getElem? (i := 239) rfl) rfl
theorem fd_Ru_21 : zFd "ScopeLines$Rule" 21 7 5 (.int) false := ⟨R_Ru, T_Ru, 6, ck_Ru, by decide, by decide +kernel, rfl, rfl, Or.inl wf_Ru_21⟩
theorem w_Gr_3 : Cond.methodLink "ScopeLines$Grammar" 3 ⟨"java/lang/Object", "<init>", "()V"⟩ ∈ zGW := z_in1 (List.mem_of_getElem? (i := 134) rfl) rfl
theorem w_Gr_9 : Cond.classLink "ScopeLines$Grammar" 9 "ScopeLines$Rule" ∈ zGW := z_in1 (List.mem_of_getElem? (i := 135) rfl) rfl
theorem wf_Gr_11 : Cond.fieldLink "ScopeLines$Grammar" 11 "ScopeLines$Grammar" "rules" "[LScopeLines$Rule;" ∈ zGW := z_in2 (List.mem_of_getElem? (i := 15) rfl) rfl
theorem fd_Gr_11 : zFd "ScopeLines$Grammar" 11 8 0 (.array (.object "ScopeLines$Rule")) true := ⟨R_Gr, T_Gr, 10, ck_Gr, by decide, by decide +kernel, rfl, rfl, Or.inl wf_Gr_11⟩
theorem wk_Gr_17 : Cond.classLink "ScopeLines$Grammar" 17 "ScopeLines$State" ∈ zGW := z_in1 (List.mem_of_getElem? (i := 137) rfl) rfl
theorem wi_St : Cond.instantiable "ScopeLines$State" 4 ∈ zGW := z_in1 (List.mem_of_getElem? (i := 100) rfl) rfl
theorem wn_St : Cond.initialized "ScopeLines$State" ∈ zGW := z_in1 (List.mem_of_getElem? (i := 4) rfl) rfl
theorem nw_Gr_17 : zNw "ScopeLines$Grammar" 17 1 4 := ⟨R_St, T_St, ck_St, df_St, wk_Gr_17, wi_St, wn_St⟩
theorem wj_St_init : Cond.instanceMethod ⟨"ScopeLines$State", "<init>", "()V"⟩ ∈ zGW := z_in1 (List.mem_of_getElem? (i := 102) rfl) rfl
theorem cw_Gr_init_19 : zCw m_Gr_init m_St_init 19 2 0 0 := ⟨Or.inr ⟨"ScopeLines", List.mem_of_getElem? (i := 3) rfl⟩, wc_St_init, wn_St, ⟨by decide, by decide, by decide +kernel⟩, ⟨by decide, by decide⟩, (fun q => by cases q), (fun q => by cases q), (fun _ => ⟨rfl, rfl, wj_St_init⟩)⟩
theorem wf_Gr_20 : Cond.fieldLink "ScopeLines$Grammar" 20 "ScopeLines$Grammar" "now" "LScopeLines$State;" ∈ zGW := z_in2 (List.mem_of_getElem? (i := 21) rfl) rfl
theorem fd_Gr_20 : zFd "ScopeLines$Grammar" 20 8 3 (.object "ScopeLines$State") true := ⟨R_Gr, T_Gr, 10, ck_Gr, by decide, by decide +kernel, rfl, rfl, Or.inl wf_Gr_20⟩
theorem wf_Gr_24 : Cond.fieldLink "ScopeLines$Grammar" 24 "ScopeLines$Grammar" "candidates" "[I" ∈ zGW := z_in2 (List.mem_of_getElem? (i := 22) rfl) rfl
theorem fd_Gr_24 : zFd "ScopeLines$Grammar" 24 8 4 (.array .int) true := ⟨R_Gr, T_Gr, 10, ck_Gr, by decide, by decide +kernel, rfl, rfl, Or.inl wf_Gr_24⟩
theorem wf_Gr_28 : Cond.fieldLink "ScopeLines$Grammar" 28 "ScopeLines$Grammar" "winnerGroups" "[I" ∈ zGW := z_in2 (List.mem_of_getElem? (i := 27) rfl) rfl
theorem fd_Gr_28 : zFd "ScopeLines$Grammar" 28 8 9 (.array .int) true := ⟨R_Gr, T_Gr, 10, ck_Gr, by decide, by decide +kernel, rfl, rfl, Or.inl wf_Gr_28⟩
theorem wk_Gr_31 : Cond.classLink "ScopeLines$Grammar" 31 "ScopeLines$Search" ∈ zGW := z_in1 (List.mem_of_getElem? (i := 139) rfl) rfl
theorem wi_Se : Cond.instantiable "ScopeLines$Search" 12 ∈ zGW := z_in1 (List.mem_of_getElem? (i := 140) rfl) rfl
theorem wn_Se : Cond.initialized "ScopeLines$Search" ∈ zGW := z_in1 (List.mem_of_getElem? (i := 7) rfl) rfl
theorem nw_Gr_31 : zNw "ScopeLines$Grammar" 31 6 12 := ⟨R_Se, T_Se, ck_Se, df_Se, wk_Gr_31, wi_Se, wn_Se⟩
theorem wm_Gr_33 : Cond.methodLink "ScopeLines$Grammar" 33 ⟨"ScopeLines$Search", "<init>", "(I)V"⟩ ∈ zGW := z_in1 (List.mem_of_getElem? (i := 141) rfl) rfl
theorem wj_Se_init : Cond.instanceMethod ⟨"ScopeLines$Search", "<init>", "(I)V"⟩ ∈ zGW := z_in1 (List.mem_of_getElem? (i := 142) rfl) rfl
theorem cw_Gr_init_33 : zCw m_Gr_init m_Se_init 33 2 0 1 := ⟨Or.inl wm_Gr_33, wc_Se_init, wn_Se, ⟨by decide, by decide, by decide +kernel⟩, ⟨by decide, by decide⟩, (fun q => by cases q), (fun q => by cases q), (fun _ => ⟨rfl, rfl, wj_Se_init⟩)⟩
theorem wf_Gr_36 : Cond.fieldLink "ScopeLines$Grammar" 36 "ScopeLines$Grammar" "search" "LScopeLines$Search;" ∈ zGW := z_in2 (List.mem_of_getElem? (i := 19) rfl) rfl
theorem fd_Gr_36 : zFd "ScopeLines$Grammar" 36 8 2 (.object "ScopeLines$Search") true := ⟨R_Gr, T_Gr, 10, ck_Gr, by decide, by decide +kernel, rfl, rfl, Or.inl wf_Gr_36⟩
theorem wk_Gr_9 : Cond.classLink "ScopeLines$Grammar" 9 "ScopeLines$Rule" ∈ zGW := z_in1 (List.mem_of_getElem? (i := 135) rfl) rfl
theorem wi_Ru : Cond.instantiable "ScopeLines$Rule" 6 ∈ zGW := z_in1 (List.mem_of_getElem? (i := 191) rfl) rfl
theorem wn_Ru : Cond.initialized "ScopeLines$Rule" ∈ zGW := z_in1 (List.mem_of_getElem? (i := 8) rfl) rfl
theorem nw_Gr_9 : zNw "ScopeLines$Grammar" 9 7 6 := ⟨R_Ru, T_Ru, ck_Ru, df_Ru, wk_Gr_9, wi_Ru, wn_Ru⟩
theorem wj_Ru_init : Cond.instanceMethod ⟨"ScopeLines$Rule", "<init>", "()V"⟩ ∈ zGW := z_in1 (List.mem_of_getElem? (i := 193) rfl) rfl
theorem cw_Gr_init_40 : zCw m_Gr_init m_Ru_init 40 2 0 0 := ⟨Or.inr ⟨"ScopeLines", List.mem_of_getElem? (i := 4) rfl⟩, wc_Ru_init, wn_Ru, ⟨by decide, by decide, by decide +kernel⟩, ⟨by decide, by decide⟩, (fun q => by cases q), (fun q => by cases q), (fun _ => ⟨rfl, rfl, wj_Ru_init⟩)⟩
theorem wf_Gr_41 : Cond.fieldLink "ScopeLines$Grammar" 41 "ScopeLines$Rule" "isRange" "Z" ∈ zGW := z_in1 (List.mem_of_getElem? (i := 236) rfl) rfl
theorem fd_Gr_41 : zFd "ScopeLines$Grammar" 41 7 2 (.boolean) false := ⟨R_Ru, T_Ru, 6, ck_Ru, by decide, by decide +kernel, rfl, rfl, Or.inl wf_Gr_41⟩
theorem w_Li_3 : Cond.methodLink "ScopeLines$Line" 3 ⟨"java/lang/Object", "<init>", "()V"⟩ ∈ zGW := z_in2 (List.mem_of_getElem? (i := 53) rfl) rfl
theorem wf_Li_9 : Cond.fieldLink "ScopeLines$Line" 9 "ScopeLines$Line" "characters" "[C" ∈ zGW := z_in2 (List.mem_of_getElem? (i := 56) rfl) rfl
theorem fd_Li_9 : zFd "ScopeLines$Line" 9 2 0 (.array .char) true := ⟨R_Li, T_Li, 8, ck_Li, by decide, by decide +kernel, rfl, rfl, Or.inl wf_Li_9⟩
theorem wf_Li_15 : Cond.fieldLink "ScopeLines$Line" 15 "ScopeLines$Line" "begins" "[I" ∈ zGW := z_in2 (List.mem_of_getElem? (i := 63) rfl) rfl
theorem fd_Li_15 : zFd "ScopeLines$Line" 15 2 2 (.array .int) true := ⟨R_Li, T_Li, 8, ck_Li, by decide, by decide +kernel, rfl, rfl, Or.inl wf_Li_15⟩
theorem wf_Li_19 : Cond.fieldLink "ScopeLines$Line" 19 "ScopeLines$Line" "scopeCounts" "[I" ∈ zGW := z_in2 (List.mem_of_getElem? (i := 65) rfl) rfl
theorem fd_Li_19 : zFd "ScopeLines$Line" 19 2 3 (.array .int) true := ⟨R_Li, T_Li, 8, ck_Li, by decide, by decide +kernel, rfl, rfl, Or.inl wf_Li_19⟩
theorem wf_Li_22 : Cond.fieldLink "ScopeLines$Line" 22 "ScopeLines$Line" "scopes" "[I" ∈ zGW := z_in2 (List.mem_of_getElem? (i := 68) rfl) rfl
theorem fd_Li_22 : zFd "ScopeLines$Line" 22 2 4 (.array .int) true := ⟨R_Li, T_Li, 8, ck_Li, by decide, by decide +kernel, rfl, rfl, Or.inl wf_Li_22⟩
theorem wk_Li_25 : Cond.classLink "ScopeLines$Line" 25 "ScopeLines$State" ∈ zGW := z_in2 (List.mem_of_getElem? (i := 54) rfl) rfl
theorem nw_Li_25 : zNw "ScopeLines$Line" 25 1 4 := ⟨R_St, T_St, ck_St, df_St, wk_Li_25, wi_St, wn_St⟩
theorem cw_Li_init_27 : zCw m_Li_init m_St_init 27 2 0 0 := ⟨Or.inr ⟨"ScopeLines", List.mem_of_getElem? (i := 7) rfl⟩, wc_St_init, wn_St, ⟨by decide, by decide, by decide +kernel⟩, ⟨by decide, by decide⟩, (fun q => by cases q), (fun q => by cases q), (fun _ => ⟨rfl, rfl, wj_St_init⟩)⟩
theorem wf_Li_28 : Cond.fieldLink "ScopeLines$Line" 28 "ScopeLines$Line" "end" "LScopeLines$State;" ∈ zGW := z_in2 (List.mem_of_getElem? (i := 74) rfl) rfl
theorem fd_Li_28 : zFd "ScopeLines$Line" 28 2 7 (.object "ScopeLines$State") true := ⟨R_Li, T_Li, 8, ck_Li, by decide, by decide +kernel, rfl, rfl, Or.inl wf_Li_28⟩
theorem w_SL_1 : Cond.methodLink "ScopeLines" 1 ⟨"java/lang/Object", "<init>", "()V"⟩ ∈ zGW := z_in1 (List.mem_of_getElem? (i := 19) rfl) rfl
theorem wf_SL_9 : Cond.fieldLink "ScopeLines" 9 "ScopeLines" "draft" "[C" ∈ zGW := z_in2 (List.mem_of_getElem? (i := 94) rfl) rfl
theorem fd_SL_9 : zFd "ScopeLines" 9 0 0 (.array .char) true := ⟨R_SL, T_SL, 10, ck_SL, by decide, by decide +kernel, rfl, rfl, Or.inl wf_SL_9⟩
theorem wk_SL_13 : Cond.classLink "ScopeLines" 13 "ScopeLines$Parser" ∈ zGW := z_in1 (List.mem_of_getElem? (i := 22) rfl) rfl
theorem wi_Pr : Cond.instantiable "ScopeLines$Parser" 15 ∈ zGW := z_in1 (List.mem_of_getElem? (i := 23) rfl) rfl
theorem wn_Pr : Cond.initialized "ScopeLines$Parser" ∈ zGW := z_in1 (List.mem_of_getElem? (i := 2) rfl) rfl
theorem nw_SL_13 : zNw "ScopeLines" 13 5 15 := ⟨R_Pr, T_Pr, ck_Pr, df_Pr, wk_SL_13, wi_Pr, wn_Pr⟩
theorem wj_Pr_init : Cond.instanceMethod ⟨"ScopeLines$Parser", "<init>", "()V"⟩ ∈ zGW := z_in1 (List.mem_of_getElem? (i := 25) rfl) rfl
theorem cw_SL_init_15 : zCw m_SL_init m_Pr_init 15 2 0 0 := ⟨Or.inr ⟨"ScopeLines", List.mem_of_getElem? (i := 0) rfl⟩, wc_Pr_init, wn_Pr, ⟨by decide, by decide, by decide +kernel⟩, ⟨by decide, by decide⟩, (fun q => by cases q), (fun q => by cases q), (fun _ => ⟨rfl, rfl, wj_Pr_init⟩)⟩
theorem wf_SL_16 : Cond.fieldLink "ScopeLines" 16 "ScopeLines" "parser" "LScopeLines$Parser;" ∈ zGW := z_in2 (List.mem_of_getElem? (i := 96) rfl) rfl
theorem fd_SL_16 : zFd "ScopeLines" 16 0 2 (.object "ScopeLines$Parser") true := ⟨R_SL, T_SL, 10, ck_SL, by decide, by decide +kernel, rfl, rfl, Or.inl wf_SL_16⟩
theorem w_SL_20 : Cond.classLink "ScopeLines" 20 "ScopeLines$Line" ∈ zGW := z_in1 (List.mem_of_getElem? (i := 77) rfl) rfl
theorem wf_SL_22 : Cond.fieldLink "ScopeLines" 22 "ScopeLines" "document" "[LScopeLines$Line;" ∈ zGW := z_in2 (List.mem_of_getElem? (i := 98) rfl) rfl
theorem fd_SL_22 : zFd "ScopeLines" 22 0 4 (.array (.object "ScopeLines$Line")) true := ⟨R_SL, T_SL, 10, ck_SL, by decide, by decide +kernel, rfl, rfl, Or.inl wf_SL_22⟩
theorem wk_SL_26 : Cond.classLink "ScopeLines" 26 "ScopeLines$Palette" ∈ zGW := z_in1 (List.mem_of_getElem? (i := 79) rfl) rfl
theorem wi_Pa : Cond.instantiable "ScopeLines$Palette" 4 ∈ zGW := z_in1 (List.mem_of_getElem? (i := 80) rfl) rfl
theorem wn_Pa : Cond.initialized "ScopeLines$Palette" ∈ zGW := z_in1 (List.mem_of_getElem? (i := 3) rfl) rfl
theorem nw_SL_26 : zNw "ScopeLines" 26 3 4 := ⟨R_Pa, T_Pa, ck_Pa, df_Pa, wk_SL_26, wi_Pa, wn_Pa⟩
theorem wj_Pa_init : Cond.instanceMethod ⟨"ScopeLines$Palette", "<init>", "()V"⟩ ∈ zGW := z_in1 (List.mem_of_getElem? (i := 82) rfl) rfl
theorem cw_SL_init_28 : zCw m_SL_init m_Pa_init 28 2 0 0 := ⟨Or.inr ⟨"ScopeLines", List.mem_of_getElem? (i := 1) rfl⟩, wc_Pa_init, wn_Pa, ⟨by decide, by decide, by decide +kernel⟩, ⟨by decide, by decide⟩, (fun q => by cases q), (fun q => by cases q), (fun _ => ⟨rfl, rfl, wj_Pa_init⟩)⟩
theorem wf_SL_29 : Cond.fieldLink "ScopeLines" 29 "ScopeLines" "palette" "LScopeLines$Palette;" ∈ zGW := z_in2 (List.mem_of_getElem? (i := 101) rfl) rfl
theorem fd_SL_29 : zFd "ScopeLines" 29 0 7 (.object "ScopeLines$Palette") true := ⟨R_SL, T_SL, 10, ck_SL, by decide, by decide +kernel, rfl, rfl, Or.inl wf_SL_29⟩
theorem wk_SL_33 : Cond.classLink "ScopeLines" 33 "ScopeLines$State" ∈ zGW := z_in1 (List.mem_of_getElem? (i := 99) rfl) rfl
theorem nw_SL_33 : zNw "ScopeLines" 33 1 4 := ⟨R_St, T_St, ck_St, df_St, wk_SL_33, wi_St, wn_St⟩
theorem cw_SL_init_35 : zCw m_SL_init m_St_init 35 2 0 0 := ⟨Or.inr ⟨"ScopeLines", List.mem_of_getElem? (i := 2) rfl⟩, wc_St_init, wn_St, ⟨by decide, by decide, by decide +kernel⟩, ⟨by decide, by decide⟩, (fun q => by cases q), (fun q => by cases q), (fun _ => ⟨rfl, rfl, wj_St_init⟩)⟩
theorem wf_SL_36 : Cond.fieldLink "ScopeLines" 36 "ScopeLines" "nothingOpen" "LScopeLines$State;" ∈ zGW := z_in2 (List.mem_of_getElem? (i := 102) rfl) rfl
theorem fd_SL_36 : zFd "ScopeLines" 36 0 8 (.object "ScopeLines$State") true := ⟨R_SL, T_SL, 10, ck_SL, by decide, by decide +kernel, rfl, rfl, Or.inl wf_SL_36⟩
theorem wf_SL_40 : Cond.fieldLink "ScopeLines" 40 "ScopeLines" "before" "LScopeLines$State;" ∈ zGW := z_in2 (List.mem_of_getElem? (i := 103) rfl) rfl
theorem fd_SL_40 : zFd "ScopeLines" 40 0 9 (.object "ScopeLines$State") true := ⟨R_SL, T_SL, 10, ck_SL, by decide, by decide +kernel, rfl, rfl, Or.inl wf_SL_40⟩
theorem wk_SL_43 : Cond.classLink "ScopeLines" 43 "ScopeLines$Grammar" ∈ zGW := z_in1 (List.mem_of_getElem? (i := 123) rfl) rfl
theorem wi_Gr : Cond.instantiable "ScopeLines$Grammar" 10 ∈ zGW := z_in1 (List.mem_of_getElem? (i := 124) rfl) rfl
theorem wn_Gr : Cond.initialized "ScopeLines$Grammar" ∈ zGW := z_in1 (List.mem_of_getElem? (i := 5) rfl) rfl
theorem nw_SL_43 : zNw "ScopeLines" 43 8 10 := ⟨R_Gr, T_Gr, ck_Gr, df_Gr, wk_SL_43, wi_Gr, wn_Gr⟩
theorem w_SL_45 : Cond.methodLink "ScopeLines" 45 ⟨"java/lang/Math", "min", "(II)I"⟩ ∈ zGW := z_in1 (List.mem_of_getElem? (i := 125) rfl) rfl
theorem w_min1 : Cond.static ⟨"java/lang/Math", "min", "(II)I"⟩ ∈ zGW := z_in1 (List.mem_of_getElem? (i := 126) rfl) rfl
theorem w_math : Cond.initialized "java/lang/Math" ∈ zGW := z_in1 (List.mem_of_getElem? (i := 6) rfl) rfl
theorem w_min2 : Cond.code ⟨"java/lang/Math", "min", "(II)I"⟩ prog_12_method_69_code 2 (Option.some FieldType.int) ∈ zGW := z_in1 (List.mem_of_getElem? (i := 127) rfl) rfl
theorem w_SL_51 : Cond.methodLink "ScopeLines" 51 ⟨"java/lang/Math", "max", "(II)I"⟩ ∈ zGW := z_in1 (List.mem_of_getElem? (i := 128) rfl) rfl
theorem w_max1 : Cond.static ⟨"java/lang/Math", "max", "(II)I"⟩ ∈ zGW := z_in1 (List.mem_of_getElem? (i := 129) rfl) rfl
theorem w_max2 : Cond.code ⟨"java/lang/Math", "max", "(II)I"⟩ prog_12_method_65_code 2 (Option.some FieldType.int) ∈ zGW := z_in1 (List.mem_of_getElem? (i := 130) rfl) rfl
theorem wm_SL_54 : Cond.methodLink "ScopeLines" 54 ⟨"ScopeLines$Grammar", "<init>", "(I)V"⟩ ∈ zGW := z_in1 (List.mem_of_getElem? (i := 131) rfl) rfl
theorem wj_Gr_init : Cond.instanceMethod ⟨"ScopeLines$Grammar", "<init>", "(I)V"⟩ ∈ zGW := z_in1 (List.mem_of_getElem? (i := 132) rfl) rfl
theorem cw_SL_init_54 : zCw m_SL_init m_Gr_init 54 2 0 1 := ⟨Or.inl wm_SL_54, wc_Gr_init, wn_Gr, ⟨by decide, by decide, by decide +kernel⟩, ⟨by decide, by decide⟩, (fun q => by cases q), (fun q => by cases q), (fun _ => ⟨rfl, rfl, wj_Gr_init⟩)⟩
theorem wf_SL_57 : Cond.fieldLink "ScopeLines" 57 "ScopeLines" "grammar" "LScopeLines$Grammar;" ∈ zGW := z_in2 (List.mem_of_getElem? (i := 97) rfl) rfl
theorem fd_SL_57 : zFd "ScopeLines" 57 0 3 (.object "ScopeLines$Grammar") true := ⟨R_SL, T_SL, 10, ck_SL, by decide, by decide +kernel, rfl, rfl, Or.inl wf_SL_57⟩
theorem wk_SL_20 : Cond.classLink "ScopeLines" 20 "ScopeLines$Line" ∈ zGW := z_in1 (List.mem_of_getElem? (i := 77) rfl) rfl
theorem wi_Li : Cond.instantiable "ScopeLines$Line" 8 ∈ zGW := z_in2 (List.mem_of_getElem? (i := 49) rfl) rfl
theorem wn_Li : Cond.initialized "ScopeLines$Line" ∈ zGW := z_in1 (List.mem_of_getElem? (i := 10) rfl) rfl
theorem nw_SL_20 : zNw "ScopeLines" 20 2 8 := ⟨R_Li, T_Li, ck_Li, df_Li, wk_SL_20, wi_Li, wn_Li⟩
theorem wj_Li_init : Cond.instanceMethod ⟨"ScopeLines$Line", "<init>", "()V"⟩ ∈ zGW := z_in2 (List.mem_of_getElem? (i := 51) rfl) rfl
theorem cw_SL_init_61 : zCw m_SL_init m_Li_init 61 2 0 0 := ⟨Or.inr ⟨"ScopeLines", List.mem_of_getElem? (i := 6) rfl⟩, wc_Li_init, wn_Li, ⟨by decide, by decide, by decide +kernel⟩, ⟨by decide, by decide⟩, (fun q => by cases q), (fun q => by cases q), (fun _ => ⟨rfl, rfl, wj_Li_init⟩)⟩
theorem wf_SL_62 : Cond.fieldLink "ScopeLines" 62 "ScopeLines" "drafted" "I" ∈ zGW := z_in2 (List.mem_of_getElem? (i := 95) rfl) rfl
theorem fd_SL_62 : zFd "ScopeLines" 62 0 1 (.int) false := ⟨R_SL, T_SL, 10, ck_SL, by decide, by decide +kernel, rfl, rfl, Or.inl wf_SL_62⟩
theorem wf_Gr_45 : Cond.fieldLink "ScopeLines$Grammar" 45 "ScopeLines$Grammar" "ruleCount" "I" ∈ zGW := z_in2 (List.mem_of_getElem? (i := 17) rfl) rfl
theorem fd_Gr_45 : zFd "ScopeLines$Grammar" 45 8 1 (.int) false := ⟨R_Gr, T_Gr, 10, ck_Gr, by decide, by decide +kernel, rfl, rfl, Or.inl wf_Gr_45⟩
theorem wf_Pr_35 : Cond.fieldLink "ScopeLines$Parser" 35 "ScopeLines$Parser" "size" "I" ∈ zGW := z_in1 (List.mem_of_getElem? (i := 29) rfl) rfl
theorem fd_Pr_35 : zFd "ScopeLines$Parser" 35 5 1 (.int) false := ⟨R_Pr, T_Pr, 15, ck_Pr, by decide, by decide +kernel, rfl, rfl, Or.inl wf_Pr_35⟩
theorem wf_Pt_28 : Cond.fieldLink "ScopeLines$Pattern" 28 "ScopeLines$Pattern" "size" "I" ∈ zGW := z_in1 (List.mem_of_getElem? (i := 211) rfl) rfl
theorem fd_Pt_28 : zFd "ScopeLines$Pattern" 28 4 5 (.int) false := ⟨R_Pt, T_Pt, 7, ck_Pt, by decide, by decide +kernel, rfl, rfl, Or.inl wf_Pt_28⟩
theorem wf_Pt_32 : Cond.fieldLink "ScopeLines$Pattern" 32 "ScopeLines$Pattern" "setCount" "I" ∈ zGW := z_in1 (List.mem_of_getElem? (i := 213) rfl) rfl
theorem fd_Pt_32 : zFd "ScopeLines$Pattern" 32 4 6 (.int) false := ⟨R_Pt, T_Pt, 7, ck_Pt, by decide, by decide +kernel, rfl, rfl, Or.inl wf_Pt_32⟩
theorem wf_Pr_62 : Cond.fieldLink "ScopeLines$Parser" 62 "ScopeLines$Parser" "level" "I" ∈ zGW := z_in1 (List.mem_of_getElem? (i := 34) rfl) rfl
theorem fd_Pr_62 : zFd "ScopeLines$Parser" 62 5 6 (.int) false := ⟨R_Pr, T_Pr, 15, ck_Pr, by decide, by decide +kernel, rfl, rfl, Or.inl wf_Pr_62⟩
theorem wm_Pt_35 : Cond.methodLink "ScopeLines$Pattern" 35 ⟨"ScopeLines$Pattern", "insert", "(IIII)V"⟩ ∈ zGW := z_in2 (List.mem_of_getElem? (i := 179) rfl) rfl
theorem wj_Pt_insert : Cond.instanceMethod ⟨"ScopeLines$Pattern", "insert", "(IIII)V"⟩ ∈ zGW := z_in2 (List.mem_of_getElem? (i := 180) rfl) rfl
theorem ws_Pt_insert : Cond.selects m_Pt_insert.1.cls m_Pt_insert.1 m_Pt_insert.1 ∈ zGW := z_in2 (List.mem_of_getElem? (i := 181) rfl) rfl
theorem cw_Pt_append_35 : zCw m_Pt_append m_Pt_insert 35 0 4 4 := ⟨Or.inl wm_Pt_35, wc_Pt_insert, wn_Pt, ⟨by decide, by decide, by decide +kernel⟩, ⟨by decide, by decide⟩, (fun _ => ⟨wj_Pt_insert, ws_Pt_insert, by decide, T_Pt, 7, rfl⟩), (fun q => by cases q), (fun q => by cases q)⟩
theorem cw_Pt_endBranch_35 : zCw m_Pt_endBranch m_Pt_insert 35 0 4 4 := ⟨Or.inl wm_Pt_35, wc_Pt_insert, wn_Pt, ⟨by decide, by decide, by decide +kernel⟩, ⟨by decide, by decide⟩, (fun _ => ⟨wj_Pt_insert, ws_Pt_insert, by decide, T_Pt, 7, rfl⟩), (fun q => by cases q), (fun q => by cases q)⟩
theorem wm_Pt_39 : Cond.methodLink "ScopeLines$Pattern" 39 ⟨"ScopeLines$Pattern", "append", "(II)V"⟩ ∈ zGW := z_in2 (List.mem_of_getElem? (i := 183) rfl) rfl
theorem wj_Pt_append : Cond.instanceMethod ⟨"ScopeLines$Pattern", "append", "(II)V"⟩ ∈ zGW := z_in2 (List.mem_of_getElem? (i := 184) rfl) rfl
theorem ws_Pt_append : Cond.selects m_Pt_append.1.cls m_Pt_append.1 m_Pt_append.1 ∈ zGW := z_in2 (List.mem_of_getElem? (i := 185) rfl) rfl
theorem cw_Pt_endBranch_39 : zCw m_Pt_endBranch m_Pt_append 39 0 4 2 := ⟨Or.inl wm_Pt_39, wc_Pt_append, wn_Pt, ⟨by decide, by decide, by decide +kernel⟩, ⟨by decide, by decide⟩, (fun _ => ⟨wj_Pt_append, ws_Pt_append, by decide, T_Pt, 7, rfl⟩), (fun q => by cases q), (fun q => by cases q)⟩
theorem wm_Pr_107 : Cond.methodLink "ScopeLines$Parser" 107 ⟨"ScopeLines$Pattern", "endBranch", "(I)V"⟩ ∈ zGW := z_in2 (List.mem_of_getElem? (i := 175) rfl) rfl
theorem wj_Pt_endBranch : Cond.instanceMethod ⟨"ScopeLines$Pattern", "endBranch", "(I)V"⟩ ∈ zGW := z_in2 (List.mem_of_getElem? (i := 176) rfl) rfl
theorem ws_Pt_endBranch : Cond.selects m_Pt_endBranch.1.cls m_Pt_endBranch.1 m_Pt_endBranch.1 ∈ zGW := z_in2 (List.mem_of_getElem? (i := 177) rfl) rfl
theorem cw_Pr_endBranch_107 : zCw m_Pr_endBranch m_Pt_endBranch 107 0 4 1 := ⟨Or.inl wm_Pr_107, wc_Pt_endBranch, wn_Pt, ⟨by decide, by decide, by decide +kernel⟩, ⟨by decide, by decide⟩, (fun _ => ⟨wj_Pt_endBranch, ws_Pt_endBranch, by decide, T_Pt, 7, rfl⟩), (fun q => by cases q), (fun q => by cases q)⟩
theorem wf_Pr_95 : Cond.fieldLink "ScopeLines$Parser" 95 "ScopeLines$Pattern" "size" "I" ∈ zGW := z_in1 (List.mem_of_getElem? (i := 212) rfl) rfl
theorem fd_Pr_95 : zFd "ScopeLines$Parser" 95 4 5 (.int) false := ⟨R_Pt, T_Pt, 7, ck_Pt, by decide, by decide +kernel, rfl, rfl, Or.inl wf_Pr_95⟩
theorem wf_Pr_59 : Cond.fieldLink "ScopeLines$Parser" 59 "ScopeLines$Parser" "groups" "I" ∈ zGW := z_in1 (List.mem_of_getElem? (i := 33) rfl) rfl
theorem fd_Pr_59 : zFd "ScopeLines$Parser" 59 5 5 (.int) false := ⟨R_Pr, T_Pr, 15, ck_Pr, by decide, by decide +kernel, rfl, rfl, Or.inl wf_Pr_59⟩
theorem wf_Pr_56 : Cond.fieldLink "ScopeLines$Parser" 56 "ScopeLines$Parser" "isBad" "Z" ∈ zGW := z_in1 (List.mem_of_getElem? (i := 32) rfl) rfl
theorem fd_Pr_56 : zFd "ScopeLines$Parser" 56 5 4 (.boolean) false := ⟨R_Pr, T_Pr, 15, ck_Pr, by decide, by decide +kernel, rfl, rfl, Or.inl wf_Pr_56⟩
theorem wm_Pr_82 : Cond.methodLink "ScopeLines$Parser" 82 ⟨"ScopeLines$Pattern", "append", "(II)V"⟩ ∈ zGW := z_in2 (List.mem_of_getElem? (i := 191) rfl) rfl
theorem cw_Pr_openGroup_82 : zCw m_Pr_openGroup m_Pt_append 82 0 4 2 := ⟨Or.inl wm_Pr_82, wc_Pt_append, wn_Pt, ⟨by decide, by decide, by decide +kernel⟩, ⟨by decide, by decide⟩, (fun _ => ⟨wj_Pt_append, ws_Pt_append, by decide, T_Pt, 7, rfl⟩), (fun q => by cases q), (fun q => by cases q)⟩
theorem wm_Pr_70 : Cond.methodLink "ScopeLines$Parser" 70 ⟨"ScopeLines$Parser", "openLevel", "(I)V"⟩ ∈ zGW := z_in2 (List.mem_of_getElem? (i := 163) rfl) rfl
theorem wj_Pr_openLevel : Cond.instanceMethod ⟨"ScopeLines$Parser", "openLevel", "(I)V"⟩ ∈ zGW := z_in2 (List.mem_of_getElem? (i := 165) rfl) rfl
theorem ws_Pr_openLevel : Cond.selects m_Pr_openLevel.1.cls m_Pr_openLevel.1 m_Pr_openLevel.1 ∈ zGW := z_inp (q := (⟨"ScopeLines$Parser", "openLevel", "(I)V"⟩, 15)) (List.mem_of_getElem? (i := 1) rfl)
theorem cw_Pr_openGroup_70 : zCw m_Pr_openGroup m_Pr_openLevel 70 0 5 1 := ⟨Or.inl wm_Pr_70, wc_Pr_openLevel, wn_Pr, ⟨by decide, by decide, by decide +kernel⟩, ⟨by decide, by decide⟩, (fun _ => ⟨wj_Pr_openLevel, ws_Pr_openLevel, by decide, T_Pr, 15, rfl⟩), (fun q => by cases q), (fun q => by cases q)⟩
theorem wm_Pr_104 : Cond.methodLink "ScopeLines$Parser" 104 ⟨"ScopeLines$Pattern", "joinBranches", "(II)V"⟩ ∈ zGW := z_in2 (List.mem_of_getElem? (i := 200) rfl) rfl
theorem wj_Pt_joinBranches : Cond.instanceMethod ⟨"ScopeLines$Pattern", "joinBranches", "(II)V"⟩ ∈ zGW := z_in2 (List.mem_of_getElem? (i := 201) rfl) rfl
theorem ws_Pt_joinBranches : Cond.selects m_Pt_joinBranches.1.cls m_Pt_joinBranches.1 m_Pt_joinBranches.1 ∈ zGW := z_in2 (List.mem_of_getElem? (i := 202) rfl) rfl
theorem cw_Pr_closeLevel_104 : zCw m_Pr_closeLevel m_Pt_joinBranches 104 0 4 2 := ⟨Or.inl wm_Pr_104, wc_Pt_joinBranches, wn_Pt, ⟨by decide, by decide, by decide +kernel⟩, ⟨by decide, by decide⟩, (fun _ => ⟨wj_Pt_joinBranches, ws_Pt_joinBranches, by decide, T_Pt, 7, rfl⟩), (fun q => by cases q), (fun q => by cases q)⟩
theorem cw_Pt_insertSplit_35 : zCw m_Pt_insertSplit m_Pt_insert 35 0 4 4 := ⟨Or.inl wm_Pt_35, wc_Pt_insert, wn_Pt, ⟨by decide, by decide, by decide +kernel⟩, ⟨by decide, by decide⟩, (fun _ => ⟨wj_Pt_insert, ws_Pt_insert, by decide, T_Pt, 7, rfl⟩), (fun q => by cases q), (fun q => by cases q)⟩
theorem wm_Pt_43 : Cond.methodLink "ScopeLines$Pattern" 43 ⟨"ScopeLines$Pattern", "insertSplit", "(IIIZ)V"⟩ ∈ zGW := z_in2 (List.mem_of_getElem? (i := 212) rfl) rfl
theorem wj_Pt_insertSplit : Cond.instanceMethod ⟨"ScopeLines$Pattern", "insertSplit", "(IIIZ)V"⟩ ∈ zGW := z_in2 (List.mem_of_getElem? (i := 214) rfl) rfl
theorem ws_Pt_insertSplit : Cond.selects m_Pt_insertSplit.1.cls m_Pt_insertSplit.1 m_Pt_insertSplit.1 ∈ zGW := z_inp (q := (⟨"ScopeLines$Pattern", "insertSplit", "(IIIZ)V"⟩, 7)) (List.mem_of_getElem? (i := 8) rfl)
theorem cw_Pt_repeat_43 : zCw m_Pt_repeat m_Pt_insertSplit 43 0 4 4 := ⟨Or.inl wm_Pt_43, wc_Pt_insertSplit, wn_Pt, ⟨by decide, by decide, by decide +kernel⟩, ⟨by decide, by decide⟩, (fun _ => ⟨wj_Pt_insertSplit, ws_Pt_insertSplit, by decide, T_Pt, 7, rfl⟩), (fun q => by cases q), (fun q => by cases q)⟩
theorem cw_Pt_repeat_39 : zCw m_Pt_repeat m_Pt_append 39 0 4 2 := ⟨Or.inl wm_Pt_39, wc_Pt_append, wn_Pt, ⟨by decide, by decide, by decide +kernel⟩, ⟨by decide, by decide⟩, (fun _ => ⟨wj_Pt_append, ws_Pt_append, by decide, T_Pt, 7, rfl⟩), (fun q => by cases q), (fun q => by cases q)⟩
theorem wf_Pr_45 : Cond.fieldLink "ScopeLines$Parser" 45 "ScopeLines$Parser" "at" "I" ∈ zGW := z_in1 (List.mem_of_getElem? (i := 30) rfl) rfl
theorem fd_Pr_45 : zFd "ScopeLines$Parser" 45 5 2 (.int) false := ⟨R_Pr, T_Pr, 15, ck_Pr, by decide, by decide +kernel, rfl, rfl, Or.inl wf_Pr_45⟩
theorem wf_Pr_131 : Cond.fieldLink "ScopeLines$Parser" 131 "ScopeLines$Pattern" "ops" "[I" ∈ zGW := z_in1 (List.mem_of_getElem? (i := 204) rfl) rfl
theorem fd_Pr_131 : zFd "ScopeLines$Parser" 131 4 0 (.array .int) true := ⟨R_Pt, T_Pt, 7, ck_Pt, by decide, by decide +kernel, rfl, rfl, Or.inl wf_Pr_131⟩
theorem wm_Pr_134 : Cond.methodLink "ScopeLines$Parser" 134 ⟨"ScopeLines$Pattern", "repeat", "(ICZ)V"⟩ ∈ zGW := z_in2 (List.mem_of_getElem? (i := 208) rfl) rfl
theorem wj_Pt_repeat : Cond.instanceMethod ⟨"ScopeLines$Pattern", "repeat", "(ICZ)V"⟩ ∈ zGW := z_in2 (List.mem_of_getElem? (i := 209) rfl) rfl
theorem ws_Pt_repeat : Cond.selects m_Pt_repeat.1.cls m_Pt_repeat.1 m_Pt_repeat.1 ∈ zGW := z_in2 (List.mem_of_getElem? (i := 210) rfl) rfl
theorem cw_Pr_readQuantifier_134 : zCw m_Pr_readQuantifier m_Pt_repeat 134 0 4 3 := ⟨Or.inl wm_Pr_134, wc_Pt_repeat, wn_Pt, ⟨by decide, by decide, by decide +kernel⟩, ⟨by decide, by decide⟩, (fun _ => ⟨wj_Pt_repeat, ws_Pt_repeat, by decide, T_Pt, 7, rfl⟩), (fun q => by cases q), (fun q => by cases q)⟩
theorem wm_Pr_78 : Cond.methodLink "ScopeLines$Parser" 78 ⟨"ScopeLines$Parser", "closeLevel", "(LScopeLines$Pattern;)Z"⟩ ∈ zGW := z_in2 (List.mem_of_getElem? (i := 196) rfl) rfl
theorem wj_Pr_closeLevel : Cond.instanceMethod ⟨"ScopeLines$Parser", "closeLevel", "(LScopeLines$Pattern;)Z"⟩ ∈ zGW := z_in2 (List.mem_of_getElem? (i := 198) rfl) rfl
theorem ws_Pr_closeLevel : Cond.selects m_Pr_closeLevel.1.cls m_Pr_closeLevel.1 m_Pr_closeLevel.1 ∈ zGW := z_inp (q := (⟨"ScopeLines$Parser", "closeLevel", "(LScopeLines$Pattern;)Z"⟩, 15)) (List.mem_of_getElem? (i := 6) rfl)
theorem cw_Pr_closeGroup_78 : zCw m_Pr_closeGroup m_Pr_closeLevel 78 0 5 1 := ⟨Or.inl wm_Pr_78, wc_Pr_closeLevel, wn_Pr, ⟨by decide, by decide, by decide +kernel⟩, ⟨by decide, by decide⟩, (fun _ => ⟨wj_Pr_closeLevel, ws_Pr_closeLevel, by decide, T_Pr, 15, rfl⟩), (fun q => by cases q), (fun q => by cases q)⟩
theorem cw_Pr_closeGroup_82 : zCw m_Pr_closeGroup m_Pt_append 82 0 4 2 := ⟨Or.inl wm_Pr_82, wc_Pt_append, wn_Pt, ⟨by decide, by decide, by decide +kernel⟩, ⟨by decide, by decide⟩, (fun _ => ⟨wj_Pt_append, ws_Pt_append, by decide, T_Pt, 7, rfl⟩), (fun q => by cases q), (fun q => by cases q)⟩
theorem wm_Pr_100 : Cond.methodLink "ScopeLines$Parser" 100 ⟨"ScopeLines$Parser", "readQuantifier", "(IZLScopeLines$Pattern;)V"⟩ ∈ zGW := z_in2 (List.mem_of_getElem? (i := 204) rfl) rfl
theorem wj_Pr_readQuantifier : Cond.instanceMethod ⟨"ScopeLines$Parser", "readQuantifier", "(IZLScopeLines$Pattern;)V"⟩ ∈ zGW := z_in2 (List.mem_of_getElem? (i := 206) rfl) rfl
theorem ws_Pr_readQuantifier : Cond.selects m_Pr_readQuantifier.1.cls m_Pr_readQuantifier.1 m_Pr_readQuantifier.1 ∈ zGW := z_inp (q := (⟨"ScopeLines$Parser", "readQuantifier", "(IZLScopeLines$Pattern;)V"⟩, 15)) (List.mem_of_getElem? (i := 7) rfl)
theorem cw_Pr_closeGroup_100 : zCw m_Pr_closeGroup m_Pr_readQuantifier 100 0 5 3 := ⟨Or.inl wm_Pr_100, wc_Pr_readQuantifier, wn_Pr, ⟨by decide, by decide, by decide +kernel⟩, ⟨by decide, by decide⟩, (fun _ => ⟨wj_Pr_readQuantifier, ws_Pr_readQuantifier, by decide, T_Pr, 15, rfl⟩), (fun q => by cases q), (fun q => by cases q)⟩
theorem wf_Pr_115 : Cond.fieldLink "ScopeLines$Parser" 115 "ScopeLines$Parser" "low" "J" ∈ zGW := z_in1 (List.mem_of_getElem? (i := 41) rfl) rfl
theorem fd_Pr_115 : zFd "ScopeLines$Parser" 115 5 13 (.long) false := ⟨R_Pr, T_Pr, 15, ck_Pr, by decide, by decide +kernel, rfl, rfl, Or.inl wf_Pr_115⟩
theorem wf_Pr_119 : Cond.fieldLink "ScopeLines$Parser" 119 "ScopeLines$Parser" "high" "J" ∈ zGW := z_in1 (List.mem_of_getElem? (i := 42) rfl) rfl
theorem fd_Pr_119 : zFd "ScopeLines$Parser" 119 5 14 (.long) false := ⟨R_Pr, T_Pr, 15, ck_Pr, by decide, by decide +kernel, rfl, rfl, Or.inl wf_Pr_119⟩
theorem cw_Pt_appendSet_39 : zCw m_Pt_appendSet m_Pt_append 39 0 4 2 := ⟨Or.inl wm_Pt_39, wc_Pt_append, wn_Pt, ⟨by decide, by decide, by decide +kernel⟩, ⟨by decide, by decide⟩, (fun _ => ⟨wj_Pt_append, ws_Pt_append, by decide, T_Pt, 7, rfl⟩), (fun q => by cases q), (fun q => by cases q)⟩
theorem wm_Pr_122 : Cond.methodLink "ScopeLines$Parser" 122 ⟨"ScopeLines$Parser", "readItem", "()V"⟩ ∈ zGW := z_in2 (List.mem_of_getElem? (i := 224) rfl) rfl
theorem wj_Pr_readItem : Cond.instanceMethod ⟨"ScopeLines$Parser", "readItem", "()V"⟩ ∈ zGW := z_in2 (List.mem_of_getElem? (i := 226) rfl) rfl
theorem ws_Pr_readItem : Cond.selects m_Pr_readItem.1.cls m_Pr_readItem.1 m_Pr_readItem.1 ∈ zGW := z_inp (q := (⟨"ScopeLines$Parser", "readItem", "()V"⟩, 15)) (List.mem_of_getElem? (i := 11) rfl)
theorem cw_Pr_readSet_122 : zCw m_Pr_readSet m_Pr_readItem 122 0 5 0 := ⟨Or.inl wm_Pr_122, wc_Pr_readItem, wn_Pr, ⟨by decide, by decide, by decide +kernel⟩, ⟨by decide, by decide⟩, (fun _ => ⟨wj_Pr_readItem, ws_Pr_readItem, by decide, T_Pr, 15, rfl⟩), (fun q => by cases q), (fun q => by cases q)⟩
theorem w_Pr_125 : Cond.constantLong "ScopeLines$Parser" 125 (Int64.ofInt (-1)) ∈ zGW := z_in2 (List.mem_of_getElem? (i := 228) rfl) rfl
theorem wm_Pr_127 : Cond.methodLink "ScopeLines$Parser" 127 ⟨"ScopeLines$Pattern", "appendSet", "(JJ)V"⟩ ∈ zGW := z_in2 (List.mem_of_getElem? (i := 229) rfl) rfl
theorem wj_Pt_appendSet : Cond.instanceMethod ⟨"ScopeLines$Pattern", "appendSet", "(JJ)V"⟩ ∈ zGW := z_in2 (List.mem_of_getElem? (i := 230) rfl) rfl
theorem ws_Pt_appendSet : Cond.selects m_Pt_appendSet.1.cls m_Pt_appendSet.1 m_Pt_appendSet.1 ∈ zGW := z_in2 (List.mem_of_getElem? (i := 231) rfl) rfl
theorem cw_Pr_readSet_127 : zCw m_Pr_readSet m_Pt_appendSet 127 0 4 2 := ⟨Or.inl wm_Pr_127, wc_Pt_appendSet, wn_Pt, ⟨by decide, by decide, by decide +kernel⟩, ⟨by decide, by decide⟩, (fun _ => ⟨wj_Pt_appendSet, ws_Pt_appendSet, by decide, T_Pt, 7, rfl⟩), (fun q => by cases q), (fun q => by cases q)⟩
theorem cw_Pr_readEscape_82 : zCw m_Pr_readEscape m_Pt_append 82 0 4 2 := ⟨Or.inl wm_Pr_82, wc_Pt_append, wn_Pt, ⟨by decide, by decide, by decide +kernel⟩, ⟨by decide, by decide⟩, (fun _ => ⟨wj_Pt_append, ws_Pt_append, by decide, T_Pt, 7, rfl⟩), (fun q => by cases q), (fun q => by cases q)⟩
theorem wf_Pr_48 : Cond.fieldLink "ScopeLines$Parser" 48 "ScopeLines$Parser" "inEnd" "Z" ∈ zGW := z_in1 (List.mem_of_getElem? (i := 31) rfl) rfl
theorem fd_Pr_48 : zFd "ScopeLines$Parser" 48 5 3 (.boolean) false := ⟨R_Pr, T_Pr, 15, ck_Pr, by decide, by decide +kernel, rfl, rfl, Or.inl wf_Pr_48⟩
theorem cw_Pr_readAtom_82 : zCw m_Pr_readAtom m_Pt_append 82 0 4 2 := ⟨Or.inl wm_Pr_82, wc_Pt_append, wn_Pt, ⟨by decide, by decide, by decide +kernel⟩, ⟨by decide, by decide⟩, (fun _ => ⟨wj_Pt_append, ws_Pt_append, by decide, T_Pt, 7, rfl⟩), (fun q => by cases q), (fun q => by cases q)⟩
theorem wm_Pr_109 : Cond.methodLink "ScopeLines$Parser" 109 ⟨"ScopeLines$Parser", "readSet", "(LScopeLines$Pattern;)V"⟩ ∈ zGW := z_in2 (List.mem_of_getElem? (i := 220) rfl) rfl
theorem wj_Pr_readSet : Cond.instanceMethod ⟨"ScopeLines$Parser", "readSet", "(LScopeLines$Pattern;)V"⟩ ∈ zGW := z_in2 (List.mem_of_getElem? (i := 222) rfl) rfl
theorem ws_Pr_readSet : Cond.selects m_Pr_readSet.1.cls m_Pr_readSet.1 m_Pr_readSet.1 ∈ zGW := z_inp (q := (⟨"ScopeLines$Parser", "readSet", "(LScopeLines$Pattern;)V"⟩, 15)) (List.mem_of_getElem? (i := 10) rfl)
theorem cw_Pr_readAtom_109 : zCw m_Pr_readAtom m_Pr_readSet 109 0 5 1 := ⟨Or.inl wm_Pr_109, wc_Pr_readSet, wn_Pr, ⟨by decide, by decide, by decide +kernel⟩, ⟨by decide, by decide⟩, (fun _ => ⟨wj_Pr_readSet, ws_Pr_readSet, by decide, T_Pr, 15, rfl⟩), (fun q => by cases q), (fun q => by cases q)⟩
theorem wm_Pr_112 : Cond.methodLink "ScopeLines$Parser" 112 ⟨"ScopeLines$Parser", "readEscape", "(LScopeLines$Pattern;)Z"⟩ ∈ zGW := z_in2 (List.mem_of_getElem? (i := 233) rfl) rfl
theorem wj_Pr_readEscape : Cond.instanceMethod ⟨"ScopeLines$Parser", "readEscape", "(LScopeLines$Pattern;)Z"⟩ ∈ zGW := z_in2 (List.mem_of_getElem? (i := 235) rfl) rfl
theorem ws_Pr_readEscape : Cond.selects m_Pr_readEscape.1.cls m_Pr_readEscape.1 m_Pr_readEscape.1 ∈ zGW := z_inp (q := (⟨"ScopeLines$Parser", "readEscape", "(LScopeLines$Pattern;)Z"⟩, 15)) (List.mem_of_getElem? (i := 12) rfl)
theorem cw_Pr_readAtom_112 : zCw m_Pr_readAtom m_Pr_readEscape 112 0 5 1 := ⟨Or.inl wm_Pr_112, wc_Pr_readEscape, wn_Pr, ⟨by decide, by decide, by decide +kernel⟩, ⟨by decide, by decide⟩, (fun _ => ⟨wj_Pr_readEscape, ws_Pr_readEscape, by decide, T_Pr, 15, rfl⟩), (fun q => by cases q), (fun q => by cases q)⟩
theorem wm_Pr_86 : Cond.methodLink "ScopeLines$Parser" 86 ⟨"ScopeLines$Parser", "endBranch", "(LScopeLines$Pattern;)V"⟩ ∈ zGW := z_in2 (List.mem_of_getElem? (i := 171) rfl) rfl
theorem wj_Pr_endBranch : Cond.instanceMethod ⟨"ScopeLines$Parser", "endBranch", "(LScopeLines$Pattern;)V"⟩ ∈ zGW := z_in2 (List.mem_of_getElem? (i := 173) rfl) rfl
theorem ws_Pr_endBranch : Cond.selects m_Pr_endBranch.1.cls m_Pr_endBranch.1 m_Pr_endBranch.1 ∈ zGW := z_inp (q := (⟨"ScopeLines$Parser", "endBranch", "(LScopeLines$Pattern;)V"⟩, 15)) (List.mem_of_getElem? (i := 3) rfl)
theorem cw_Pr_readNext_86 : zCw m_Pr_readNext m_Pr_endBranch 86 0 5 1 := ⟨Or.inl wm_Pr_86, wc_Pr_endBranch, wn_Pr, ⟨by decide, by decide, by decide +kernel⟩, ⟨by decide, by decide⟩, (fun _ => ⟨wj_Pr_endBranch, ws_Pr_endBranch, by decide, T_Pr, 15, rfl⟩), (fun q => by cases q), (fun q => by cases q)⟩
theorem wm_Pr_89 : Cond.methodLink "ScopeLines$Parser" 89 ⟨"ScopeLines$Parser", "openGroup", "(LScopeLines$Pattern;)V"⟩ ∈ zGW := z_in2 (List.mem_of_getElem? (i := 187) rfl) rfl
theorem wj_Pr_openGroup : Cond.instanceMethod ⟨"ScopeLines$Parser", "openGroup", "(LScopeLines$Pattern;)V"⟩ ∈ zGW := z_in2 (List.mem_of_getElem? (i := 189) rfl) rfl
theorem ws_Pr_openGroup : Cond.selects m_Pr_openGroup.1.cls m_Pr_openGroup.1 m_Pr_openGroup.1 ∈ zGW := z_inp (q := (⟨"ScopeLines$Parser", "openGroup", "(LScopeLines$Pattern;)V"⟩, 15)) (List.mem_of_getElem? (i := 4) rfl)
theorem cw_Pr_readNext_89 : zCw m_Pr_readNext m_Pr_openGroup 89 0 5 1 := ⟨Or.inl wm_Pr_89, wc_Pr_openGroup, wn_Pr, ⟨by decide, by decide, by decide +kernel⟩, ⟨by decide, by decide⟩, (fun _ => ⟨wj_Pr_openGroup, ws_Pr_openGroup, by decide, T_Pr, 15, rfl⟩), (fun q => by cases q), (fun q => by cases q)⟩
theorem wm_Pr_92 : Cond.methodLink "ScopeLines$Parser" 92 ⟨"ScopeLines$Parser", "closeGroup", "(LScopeLines$Pattern;)V"⟩ ∈ zGW := z_in2 (List.mem_of_getElem? (i := 192) rfl) rfl
theorem wj_Pr_closeGroup : Cond.instanceMethod ⟨"ScopeLines$Parser", "closeGroup", "(LScopeLines$Pattern;)V"⟩ ∈ zGW := z_in2 (List.mem_of_getElem? (i := 194) rfl) rfl
theorem ws_Pr_closeGroup : Cond.selects m_Pr_closeGroup.1.cls m_Pr_closeGroup.1 m_Pr_closeGroup.1 ∈ zGW := z_inp (q := (⟨"ScopeLines$Parser", "closeGroup", "(LScopeLines$Pattern;)V"⟩, 15)) (List.mem_of_getElem? (i := 5) rfl)
theorem cw_Pr_readNext_92 : zCw m_Pr_readNext m_Pr_closeGroup 92 0 5 1 := ⟨Or.inl wm_Pr_92, wc_Pr_closeGroup, wn_Pr, ⟨by decide, by decide, by decide +kernel⟩, ⟨by decide, by decide⟩, (fun _ => ⟨wj_Pr_closeGroup, ws_Pr_closeGroup, by decide, T_Pr, 15, rfl⟩), (fun q => by cases q), (fun q => by cases q)⟩
theorem wm_Pr_96 : Cond.methodLink "ScopeLines$Parser" 96 ⟨"ScopeLines$Parser", "readAtom", "(CLScopeLines$Pattern;)Z"⟩ ∈ zGW := z_in2 (List.mem_of_getElem? (i := 216) rfl) rfl
theorem wj_Pr_readAtom : Cond.instanceMethod ⟨"ScopeLines$Parser", "readAtom", "(CLScopeLines$Pattern;)Z"⟩ ∈ zGW := z_in2 (List.mem_of_getElem? (i := 218) rfl) rfl
theorem ws_Pr_readAtom : Cond.selects m_Pr_readAtom.1.cls m_Pr_readAtom.1 m_Pr_readAtom.1 ∈ zGW := z_inp (q := (⟨"ScopeLines$Parser", "readAtom", "(CLScopeLines$Pattern;)Z"⟩, 15)) (List.mem_of_getElem? (i := 9) rfl)
theorem cw_Pr_readNext_96 : zCw m_Pr_readNext m_Pr_readAtom 96 0 5 2 := ⟨Or.inl wm_Pr_96, wc_Pr_readAtom, wn_Pr, ⟨by decide, by decide, by decide +kernel⟩, ⟨by decide, by decide⟩, (fun _ => ⟨wj_Pr_readAtom, ws_Pr_readAtom, by decide, T_Pr, 15, rfl⟩), (fun q => by cases q), (fun q => by cases q)⟩
theorem cw_Pr_readNext_100 : zCw m_Pr_readNext m_Pr_readQuantifier 100 0 5 3 := ⟨Or.inl wm_Pr_100, wc_Pr_readQuantifier, wn_Pr, ⟨by decide, by decide, by decide +kernel⟩, ⟨by decide, by decide⟩, (fun _ => ⟨wj_Pr_readQuantifier, ws_Pr_readQuantifier, by decide, T_Pr, 15, rfl⟩), (fun q => by cases q), (fun q => by cases q)⟩
theorem w_Pr_39 : Cond.methodLink "ScopeLines$Parser" 39 ⟨"java/lang/System", "arraycopy", "(Ljava/lang/Object;ILjava/lang/Object;II)V"⟩ ∈ zGW := z_in2 (List.mem_of_getElem? (i := 152) rfl) rfl
theorem w_cp1 : Cond.native ⟨"java/lang/System", "arraycopy", "(Ljava/lang/Object;ILjava/lang/Object;II)V"⟩ ∈ zGW := z_in2 (List.mem_of_getElem? (i := 154) rfl) rfl
theorem w_cp2 : Cond.static ⟨"java/lang/System", "arraycopy", "(Ljava/lang/Object;ILjava/lang/Object;II)V"⟩ ∈ zGW := z_in2 (List.mem_of_getElem? (i := 153) rfl) rfl
theorem w_sys : Cond.initialized "java/lang/System" ∈ zGW := z_in1 (List.mem_of_getElem? (i := 12) rfl) rfl
theorem wm_Pr_52 : Cond.methodLink "ScopeLines$Parser" 52 ⟨"ScopeLines$Parser", "hasBlank", "()Z"⟩ ∈ zGW := z_in2 (List.mem_of_getElem? (i := 155) rfl) rfl
theorem wj_Pr_hasBlank : Cond.instanceMethod ⟨"ScopeLines$Parser", "hasBlank", "()Z"⟩ ∈ zGW := z_in2 (List.mem_of_getElem? (i := 157) rfl) rfl
theorem ws_Pr_hasBlank : Cond.selects m_Pr_hasBlank.1.cls m_Pr_hasBlank.1 m_Pr_hasBlank.1 ∈ zGW := z_inp (q := (⟨"ScopeLines$Parser", "hasBlank", "()Z"⟩, 15)) (List.mem_of_getElem? (i := 0) rfl)
theorem cw_Pr_parse_52 : zCw m_Pr_parse m_Pr_hasBlank 52 0 5 0 := ⟨Or.inl wm_Pr_52, wc_Pr_hasBlank, wn_Pr, ⟨by decide, by decide, by decide +kernel⟩, ⟨by decide, by decide⟩, (fun _ => ⟨wj_Pr_hasBlank, ws_Pr_hasBlank, by decide, T_Pr, 15, rfl⟩), (fun q => by cases q), (fun q => by cases q)⟩
theorem wm_Pr_65 : Cond.methodLink "ScopeLines$Parser" 65 ⟨"ScopeLines$Pattern", "clear", "()V"⟩ ∈ zGW := z_in2 (List.mem_of_getElem? (i := 159) rfl) rfl
theorem wj_Pt_clear : Cond.instanceMethod ⟨"ScopeLines$Pattern", "clear", "()V"⟩ ∈ zGW := z_in2 (List.mem_of_getElem? (i := 160) rfl) rfl
theorem ws_Pt_clear : Cond.selects m_Pt_clear.1.cls m_Pt_clear.1 m_Pt_clear.1 ∈ zGW := z_in2 (List.mem_of_getElem? (i := 161) rfl) rfl
theorem cw_Pr_parse_65 : zCw m_Pr_parse m_Pt_clear 65 0 4 0 := ⟨Or.inl wm_Pr_65, wc_Pt_clear, wn_Pt, ⟨by decide, by decide, by decide +kernel⟩, ⟨by decide, by decide⟩, (fun _ => ⟨wj_Pt_clear, ws_Pt_clear, by decide, T_Pt, 7, rfl⟩), (fun q => by cases q), (fun q => by cases q)⟩
theorem cw_Pr_parse_70 : zCw m_Pr_parse m_Pr_openLevel 70 0 5 1 := ⟨Or.inl wm_Pr_70, wc_Pr_openLevel, wn_Pr, ⟨by decide, by decide, by decide +kernel⟩, ⟨by decide, by decide⟩, (fun _ => ⟨wj_Pr_openLevel, ws_Pr_openLevel, by decide, T_Pr, 15, rfl⟩), (fun q => by cases q), (fun q => by cases q)⟩
theorem wm_Pr_74 : Cond.methodLink "ScopeLines$Parser" 74 ⟨"ScopeLines$Parser", "readNext", "(LScopeLines$Pattern;)V"⟩ ∈ zGW := z_in2 (List.mem_of_getElem? (i := 167) rfl) rfl
theorem wj_Pr_readNext : Cond.instanceMethod ⟨"ScopeLines$Parser", "readNext", "(LScopeLines$Pattern;)V"⟩ ∈ zGW := z_in2 (List.mem_of_getElem? (i := 169) rfl) rfl
theorem ws_Pr_readNext : Cond.selects m_Pr_readNext.1.cls m_Pr_readNext.1 m_Pr_readNext.1 ∈ zGW := z_inp (q := (⟨"ScopeLines$Parser", "readNext", "(LScopeLines$Pattern;)V"⟩, 15)) (List.mem_of_getElem? (i := 2) rfl)
theorem cw_Pr_parse_74 : zCw m_Pr_parse m_Pr_readNext 74 0 5 1 := ⟨Or.inl wm_Pr_74, wc_Pr_readNext, wn_Pr, ⟨by decide, by decide, by decide +kernel⟩, ⟨by decide, by decide⟩, (fun _ => ⟨wj_Pr_readNext, ws_Pr_readNext, by decide, T_Pr, 15, rfl⟩), (fun q => by cases q), (fun q => by cases q)⟩
theorem cw_Pr_parse_78 : zCw m_Pr_parse m_Pr_closeLevel 78 0 5 1 := ⟨Or.inl wm_Pr_78, wc_Pr_closeLevel, wn_Pr, ⟨by decide, by decide, by decide +kernel⟩, ⟨by decide, by decide⟩, (fun _ => ⟨wj_Pr_closeLevel, ws_Pr_closeLevel, by decide, T_Pr, 15, rfl⟩), (fun q => by cases q), (fun q => by cases q)⟩
theorem cw_Pr_parse_82 : zCw m_Pr_parse m_Pt_append 82 0 4 2 := ⟨Or.inl wm_Pr_82, wc_Pt_append, wn_Pt, ⟨by decide, by decide, by decide +kernel⟩, ⟨by decide, by decide⟩, (fun _ => ⟨wj_Pt_append, ws_Pt_append, by decide, T_Pt, 7, rfl⟩), (fun q => by cases q), (fun q => by cases q)⟩
theorem wm_Gr_49 : Cond.methodLink "ScopeLines$Grammar" 49 ⟨"ScopeLines$Grammar", "nextRule", "()LScopeLines$Rule;"⟩ ∈ zGW := z_in3 (List.mem_of_getElem? (i := 5) rfl) rfl
theorem wj_Gr_nextRule : Cond.instanceMethod ⟨"ScopeLines$Grammar", "nextRule", "()LScopeLines$Rule;"⟩ ∈ zGW := z_in2 (List.mem_of_getElem? (i := 145) rfl) rfl
theorem ws_Gr_nextRule : Cond.selects m_Gr_nextRule.1.cls m_Gr_nextRule.1 m_Gr_nextRule.1 ∈ zGW := z_in2 (List.mem_of_getElem? (i := 146) rfl) rfl
theorem cw_Gr_keepNextRule_49 : zCw m_Gr_keepNextRule m_Gr_nextRule 49 0 8 0 := ⟨Or.inl wm_Gr_49, wc_Gr_nextRule, wn_Gr, ⟨by decide, by decide, by decide +kernel⟩, ⟨by decide, by decide⟩, (fun _ => ⟨wj_Gr_nextRule, ws_Gr_nextRule, by decide, T_Gr, 10, rfl⟩), (fun q => by cases q), (fun q => by cases q)⟩
theorem wf_Gr_53 : Cond.fieldLink "ScopeLines$Grammar" 53 "ScopeLines$Rule" "home" "I" ∈ zGW := z_in1 (List.mem_of_getElem? (i := 237) rfl) rfl
theorem fd_Gr_53 : zFd "ScopeLines$Grammar" 53 7 3 (.int) false := ⟨R_Ru, T_Ru, 6, ck_Ru, by decide, by decide +kernel, rfl, rfl, Or.inl wf_Gr_53⟩
theorem wf_Gr_56 : Cond.fieldLink "ScopeLines$Grammar" 56 "ScopeLines$Rule" "scope" "I" ∈ zGW := z_in1 (List.mem_of_getElem? (i := 238) rfl) rfl
theorem fd_Gr_56 : zFd "ScopeLines$Grammar" 56 7 4 (.int) false := ⟨R_Ru, T_Ru, 6, ck_Ru, by decide, by decide +kernel, rfl, rfl, Or.inl wf_Gr_56⟩
theorem wm_SL_195 : Cond.methodLink "ScopeLines" 195 ⟨"ScopeLines$Grammar", "keepNextRule", "(IIZ)V"⟩ ∈ zGW := z_in3 (List.mem_of_getElem? (i := 1) rfl) rfl
theorem wj_Gr_keepNextRule : Cond.instanceMethod ⟨"ScopeLines$Grammar", "keepNextRule", "(IIZ)V"⟩ ∈ zGW := z_in3 (List.mem_of_getElem? (i := 2) rfl) rfl
theorem ws_Gr_keepNextRule : Cond.selects m_Gr_keepNextRule.1.cls m_Gr_keepNextRule.1 m_Gr_keepNextRule.1 ∈ zGW := z_in3 (List.mem_of_getElem? (i := 3) rfl) rfl
theorem cw_SL_addRule_195 : zCw m_SL_addRule m_Gr_keepNextRule 195 0 8 3 := ⟨Or.inl wm_SL_195, wc_Gr_keepNextRule, wn_Gr, ⟨by decide, by decide, by decide +kernel⟩, ⟨by decide, by decide⟩, (fun _ => ⟨wj_Gr_keepNextRule, ws_Gr_keepNextRule, by decide, T_Gr, 10, rfl⟩), (fun q => by cases q), (fun q => by cases q)⟩
theorem wf_SL_87 : Cond.fieldLink "ScopeLines" 87 "ScopeLines$Grammar" "ruleCount" "I" ∈ zGW := z_in2 (List.mem_of_getElem? (i := 18) rfl) rfl
theorem fd_SL_87 : zFd "ScopeLines" 87 8 1 (.int) false := ⟨R_Gr, T_Gr, 10, ck_Gr, by decide, by decide +kernel, rfl, rfl, Or.inl wf_SL_87⟩
theorem wf_St_22 : Cond.fieldLink "ScopeLines$State" 22 "ScopeLines$State" "open" "I" ∈ zGW := z_in1 (List.mem_of_getElem? (i := 105) rfl) rfl
theorem fd_St_22 : zFd "ScopeLines$State" 22 1 0 (.int) false := ⟨R_St, T_St, 4, ck_St, by decide, by decide +kernel, rfl, rfl, Or.inl wf_St_22⟩
theorem w_St_31 : Cond.methodLink "ScopeLines$State" 31 ⟨"java/lang/System", "arraycopy", "(Ljava/lang/Object;ILjava/lang/Object;II)V"⟩ ∈ zGW := z_in3 (List.mem_of_getElem? (i := 14) rfl) rfl
theorem wf_Gr_113 : Cond.fieldLink "ScopeLines$Grammar" 113 "ScopeLines$Grammar" "candidateCount" "I" ∈ zGW := z_in2 (List.mem_of_getElem? (i := 23) rfl) rfl
theorem fd_Gr_113 : zFd "ScopeLines$Grammar" 113 8 5 (.int) false := ⟨R_Gr, T_Gr, 10, ck_Gr, by decide, by decide +kernel, rfl, rfl, Or.inl wf_Gr_113⟩
theorem wm_Gr_103 : Cond.methodLink "ScopeLines$Grammar" 103 ⟨"ScopeLines$State", "innermost", "()I"⟩ ∈ zGW := z_in3 (List.mem_of_getElem? (i := 24) rfl) rfl
theorem wj_St_innermost : Cond.instanceMethod ⟨"ScopeLines$State", "innermost", "()I"⟩ ∈ zGW := z_in3 (List.mem_of_getElem? (i := 25) rfl) rfl
theorem ws_St_innermost : Cond.selects m_St_innermost.1.cls m_St_innermost.1 m_St_innermost.1 ∈ zGW := z_in3 (List.mem_of_getElem? (i := 26) rfl) rfl
theorem cw_Gr_listCandidates_103 : zCw m_Gr_listCandidates m_St_innermost 103 0 1 0 := ⟨Or.inl wm_Gr_103, wc_St_innermost, wn_St, ⟨by decide, by decide, by decide +kernel⟩, ⟨by decide, by decide⟩, (fun _ => ⟨wj_St_innermost, ws_St_innermost, by decide, T_St, 4, rfl⟩), (fun q => by cases q), (fun q => by cases q)⟩
theorem wm_Gr_135 : Cond.methodLink "ScopeLines$Grammar" 135 ⟨"ScopeLines$Grammar", "listRulesOf", "(I)V"⟩ ∈ zGW := z_in3 (List.mem_of_getElem? (i := 32) rfl) rfl
theorem wj_Gr_listRulesOf : Cond.instanceMethod ⟨"ScopeLines$Grammar", "listRulesOf", "(I)V"⟩ ∈ zGW := z_in3 (List.mem_of_getElem? (i := 34) rfl) rfl
theorem ws_Gr_listRulesOf : Cond.selects m_Gr_listRulesOf.1.cls m_Gr_listRulesOf.1 m_Gr_listRulesOf.1 ∈ zGW := z_inp (q := (⟨"ScopeLines$Grammar", "listRulesOf", "(I)V"⟩, 10)) (List.mem_of_getElem? (i := 17) rfl)
theorem cw_Gr_listCandidates_135 : zCw m_Gr_listCandidates m_Gr_listRulesOf 135 0 8 1 := ⟨Or.inl wm_Gr_135, wc_Gr_listRulesOf, wn_Gr, ⟨by decide, by decide, by decide +kernel⟩, ⟨by decide, by decide⟩, (fun _ => ⟨wj_Gr_listRulesOf, ws_Gr_listRulesOf, by decide, T_Gr, 10, rfl⟩), (fun q => by cases q), (fun q => by cases q)⟩
theorem wf_Gr_138 : Cond.fieldLink "ScopeLines$Grammar" 138 "ScopeLines$Rule" "included" "I" ∈ zGW := z_in2 (List.mem_of_getElem? (i := 1) rfl) rfl
theorem fd_Gr_138 : zFd "ScopeLines$Grammar" 138 7 5 (.int) false := ⟨R_Ru, T_Ru, 6, ck_Ru, by decide, by decide +kernel, rfl, rfl, Or.inl wf_Gr_138⟩
theorem wf_Se_54 : Cond.fieldLink "ScopeLines$Search" 54 "ScopeLines$Search" "waitingCount" "I" ∈ zGW := z_in1 (List.mem_of_getElem? (i := 165) rfl) rfl
theorem fd_Se_54 : zFd "ScopeLines$Search" 54 6 11 (.int) false := ⟨R_Se, T_Se, 12, ck_Se, by decide, by decide +kernel, rfl, rfl, Or.inl wf_Se_54⟩
theorem wf_Se_33 : Cond.fieldLink "ScopeLines$Search" 33 "ScopeLines$Search" "steps" "I" ∈ zGW := z_in1 (List.mem_of_getElem? (i := 155) rfl) rfl
theorem fd_Se_33 : zFd "ScopeLines$Search" 33 6 4 (.int) false := ⟨R_Se, T_Se, 12, ck_Se, by decide, by decide +kernel, rfl, rfl, Or.inl wf_Se_33⟩
theorem wf_Se_36 : Cond.fieldLink "ScopeLines$Search" 36 "ScopeLines$Search" "isOver" "Z" ∈ zGW := z_in1 (List.mem_of_getElem? (i := 157) rfl) rfl
theorem fd_Se_36 : zFd "ScopeLines$Search" 36 6 5 (.boolean) false := ⟨R_Se, T_Se, 12, ck_Se, by decide, by decide +kernel, rfl, rfl, Or.inl wf_Se_36⟩
theorem wf_Se_103 : Cond.fieldLink "ScopeLines$Search" 103 "ScopeLines$State" "open" "I" ∈ zGW := z_in1 (List.mem_of_getElem? (i := 106) rfl) rfl
theorem fd_Se_103 : zFd "ScopeLines$Search" 103 1 0 (.int) false := ⟨R_St, T_St, 4, ck_St, by decide, by decide +kernel, rfl, rfl, Or.inl wf_Se_103⟩
theorem wm_Se_108 : Cond.methodLink "ScopeLines$Search" 108 ⟨"ScopeLines$State", "textLength", "(II)I"⟩ ∈ zGW := z_in3 (List.mem_of_getElem? (i := 55) rfl) rfl
theorem wj_St_textLength : Cond.instanceMethod ⟨"ScopeLines$State", "textLength", "(II)I"⟩ ∈ zGW := z_in3 (List.mem_of_getElem? (i := 56) rfl) rfl
theorem ws_St_textLength : Cond.selects m_St_textLength.1.cls m_St_textLength.1 m_St_textLength.1 ∈ zGW := z_in3 (List.mem_of_getElem? (i := 57) rfl) rfl
theorem cw_Se_fitsText_108 : zCw m_Se_fitsText m_St_textLength 108 0 1 2 := ⟨Or.inl wm_Se_108, wc_St_textLength, wn_St, ⟨by decide, by decide, by decide +kernel⟩, ⟨by decide, by decide⟩, (fun _ => ⟨wj_St_textLength, ws_St_textLength, by decide, T_St, 4, rfl⟩), (fun q => by cases q), (fun q => by cases q)⟩
theorem wm_Se_84 : Cond.methodLink "ScopeLines$Search" 84 ⟨"ScopeLines$Search", "makeStep", "()Z"⟩ ∈ zGW := z_in3 (List.mem_of_getElem? (i := 59) rfl) rfl
theorem wj_Se_makeStep : Cond.instanceMethod ⟨"ScopeLines$Search", "makeStep", "()Z"⟩ ∈ zGW := z_in3 (List.mem_of_getElem? (i := 61) rfl) rfl
theorem ws_Se_makeStep : Cond.selects m_Se_makeStep.1.cls m_Se_makeStep.1 m_Se_makeStep.1 ∈ zGW := z_inp (q := (⟨"ScopeLines$Search", "makeStep", "()Z"⟩, 12)) (List.mem_of_getElem? (i := 21) rfl)
theorem cw_Se_fitsText_84 : zCw m_Se_fitsText m_Se_makeStep 84 0 6 0 := ⟨Or.inl wm_Se_84, wc_Se_makeStep, wn_Se, ⟨by decide, by decide, by decide +kernel⟩, ⟨by decide, by decide⟩, (fun _ => ⟨wj_Se_makeStep, ws_Se_makeStep, by decide, T_Se, 12, rfl⟩), (fun q => by cases q), (fun q => by cases q)⟩
theorem wf_Se_60 : Cond.fieldLink "ScopeLines$Search" 60 "ScopeLines$Search" "here" "I" ∈ zGW := z_in1 (List.mem_of_getElem? (i := 161) rfl) rfl
theorem fd_Se_60 : zFd "ScopeLines$Search" 60 6 7 (.int) false := ⟨R_Se, T_Se, 12, ck_Se, by decide, by decide +kernel, rfl, rfl, Or.inl wf_Se_60⟩
theorem wf_Se_43 : Cond.fieldLink "ScopeLines$Search" 43 "ScopeLines$Line" "size" "I" ∈ zGW := z_in2 (List.mem_of_getElem? (i := 60) rfl) rfl
theorem fd_Se_43 : zFd "ScopeLines$Search" 43 2 1 (.int) false := ⟨R_Li, T_Li, 8, ck_Li, by decide, by decide +kernel, rfl, rfl, Or.inl wf_Se_43⟩
theorem wf_Se_95 : Cond.fieldLink "ScopeLines$Search" 95 "ScopeLines$Line" "characters" "[C" ∈ zGW := z_in2 (List.mem_of_getElem? (i := 58) rfl) rfl
theorem fd_Se_95 : zFd "ScopeLines$Search" 95 2 0 (.array .char) true := ⟨R_Li, T_Li, 8, ck_Li, by decide, by decide +kernel, rfl, rfl, Or.inl wf_Se_95⟩
theorem wm_Se_112 : Cond.methodLink "ScopeLines$Search" 112 ⟨"ScopeLines$State", "textCharacter", "(III)C"⟩ ∈ zGW := z_in3 (List.mem_of_getElem? (i := 63) rfl) rfl
theorem wj_St_textCharacter : Cond.instanceMethod ⟨"ScopeLines$State", "textCharacter", "(III)C"⟩ ∈ zGW := z_in3 (List.mem_of_getElem? (i := 64) rfl) rfl
theorem ws_St_textCharacter : Cond.selects m_St_textCharacter.1.cls m_St_textCharacter.1 m_St_textCharacter.1 ∈ zGW := z_in3 (List.mem_of_getElem? (i := 65) rfl) rfl
theorem cw_Se_fitsText_112 : zCw m_Se_fitsText m_St_textCharacter 112 0 1 3 := ⟨Or.inl wm_Se_112, wc_St_textCharacter, wn_St, ⟨by decide, by decide, by decide +kernel⟩, ⟨by decide, by decide⟩, (fun _ => ⟨wj_St_textCharacter, ws_St_textCharacter, by decide, T_St, 4, rfl⟩), (fun q => by cases q), (fun q => by cases q)⟩
theorem wf_Se_70 : Cond.fieldLink "ScopeLines$Search" 70 "ScopeLines$Pattern" "ops" "[I" ∈ zGW := z_in1 (List.mem_of_getElem? (i := 203) rfl) rfl
theorem fd_Se_70 : zFd "ScopeLines$Search" 70 4 0 (.array .int) true := ⟨R_Pt, T_Pt, 7, ck_Pt, by decide, by decide +kernel, rfl, rfl, Or.inl wf_Se_70⟩
theorem wf_Se_57 : Cond.fieldLink "ScopeLines$Search" 57 "ScopeLines$Search" "next" "I" ∈ zGW := z_in1 (List.mem_of_getElem? (i := 160) rfl) rfl
theorem fd_Se_57 : zFd "ScopeLines$Search" 57 6 6 (.int) false := ⟨R_Se, T_Se, 12, ck_Se, by decide, by decide +kernel, rfl, rfl, Or.inl wf_Se_57⟩
theorem wm_Se_99 : Cond.methodLink "ScopeLines$Search" 99 ⟨"ScopeLines$Pattern", "isInSet", "(IC)Z"⟩ ∈ zGW := z_in3 (List.mem_of_getElem? (i := 71) rfl) rfl
theorem wj_Pt_isInSet : Cond.instanceMethod ⟨"ScopeLines$Pattern", "isInSet", "(IC)Z"⟩ ∈ zGW := z_in3 (List.mem_of_getElem? (i := 72) rfl) rfl
theorem ws_Pt_isInSet : Cond.selects m_Pt_isInSet.1.cls m_Pt_isInSet.1 m_Pt_isInSet.1 ∈ zGW := z_in3 (List.mem_of_getElem? (i := 73) rfl) rfl
theorem cw_Se_fitsAtom_99 : zCw m_Se_fitsAtom m_Pt_isInSet 99 0 4 2 := ⟨Or.inl wm_Se_99, wc_Pt_isInSet, wn_Pt, ⟨by decide, by decide, by decide +kernel⟩, ⟨by decide, by decide⟩, (fun _ => ⟨wj_Pt_isInSet, ws_Pt_isInSet, by decide, T_Pt, 7, rfl⟩), (fun q => by cases q), (fun q => by cases q)⟩
theorem wf_Se_67 : Cond.fieldLink "ScopeLines$Search" 67 "ScopeLines$Pattern" "firsts" "[I" ∈ zGW := z_in1 (List.mem_of_getElem? (i := 206) rfl) rfl
theorem fd_Se_67 : zFd "ScopeLines$Search" 67 4 1 (.array .int) true := ⟨R_Pt, T_Pt, 7, ck_Pt, by decide, by decide +kernel, rfl, rfl, Or.inl wf_Se_67⟩
theorem wf_Se_40 : Cond.fieldLink "ScopeLines$Search" 40 "ScopeLines$Search" "isMatch" "Z" ∈ zGW := z_in1 (List.mem_of_getElem? (i := 162) rfl) rfl
theorem fd_Se_40 : zFd "ScopeLines$Search" 40 6 8 (.boolean) false := ⟨R_Se, T_Se, 12, ck_Se, by decide, by decide +kernel, rfl, rfl, Or.inl wf_Se_40⟩
theorem wf_Se_73 : Cond.fieldLink "ScopeLines$Search" 73 "ScopeLines$Pattern" "seconds" "[I" ∈ zGW := z_in1 (List.mem_of_getElem? (i := 208) rfl) rfl
theorem fd_Se_73 : zFd "ScopeLines$Search" 73 4 2 (.array .int) true := ⟨R_Pt, T_Pt, 7, ck_Pt, by decide, by decide +kernel, rfl, rfl, Or.inl wf_Se_73⟩
theorem wm_Se_76 : Cond.methodLink "ScopeLines$Search" 76 ⟨"ScopeLines$Search", "leaveWaiting", "(II)V"⟩ ∈ zGW := z_in3 (List.mem_of_getElem? (i := 47) rfl) rfl
theorem wj_Se_leaveWaiting : Cond.instanceMethod ⟨"ScopeLines$Search", "leaveWaiting", "(II)V"⟩ ∈ zGW := z_in3 (List.mem_of_getElem? (i := 49) rfl) rfl
theorem ws_Se_leaveWaiting : Cond.selects m_Se_leaveWaiting.1.cls m_Se_leaveWaiting.1 m_Se_leaveWaiting.1 ∈ zGW := z_inp (q := (⟨"ScopeLines$Search", "leaveWaiting", "(II)V"⟩, 12)) (List.mem_of_getElem? (i := 19) rfl)
theorem cw_Se_doNext_76 : zCw m_Se_doNext m_Se_leaveWaiting 76 0 6 2 := ⟨Or.inl wm_Se_76, wc_Se_leaveWaiting, wn_Se, ⟨by decide, by decide, by decide +kernel⟩, ⟨by decide, by decide⟩, (fun _ => ⟨wj_Se_leaveWaiting, ws_Se_leaveWaiting, by decide, T_Se, 12, rfl⟩), (fun q => by cases q), (fun q => by cases q)⟩
theorem wm_Se_80 : Cond.methodLink "ScopeLines$Search" 80 ⟨"ScopeLines$Search", "fitsText", "(LScopeLines$Line;LScopeLines$State;I)Z"⟩ ∈ zGW := z_in3 (List.mem_of_getElem? (i := 51) rfl) rfl
theorem wj_Se_fitsText : Cond.instanceMethod ⟨"ScopeLines$Search", "fitsText", "(LScopeLines$Line;LScopeLines$State;I)Z"⟩ ∈ zGW := z_in3 (List.mem_of_getElem? (i := 53) rfl) rfl
theorem ws_Se_fitsText : Cond.selects m_Se_fitsText.1.cls m_Se_fitsText.1 m_Se_fitsText.1 ∈ zGW := z_inp (q := (⟨"ScopeLines$Search", "fitsText", "(LScopeLines$Line;LScopeLines$State;I)Z"⟩, 12)) (List.mem_of_getElem? (i := 20) rfl)
theorem cw_Se_doNext_80 : zCw m_Se_doNext m_Se_fitsText 80 0 6 3 := ⟨Or.inl wm_Se_80, wc_Se_fitsText, wn_Se, ⟨by decide, by decide, by decide +kernel⟩, ⟨by decide, by decide⟩, (fun _ => ⟨wj_Se_fitsText, ws_Se_fitsText, by decide, T_Se, 12, rfl⟩), (fun q => by cases q), (fun q => by cases q)⟩
theorem cw_Se_doNext_84 : zCw m_Se_doNext m_Se_makeStep 84 0 6 0 := ⟨Or.inl wm_Se_84, wc_Se_makeStep, wn_Se, ⟨by decide, by decide, by decide +kernel⟩, ⟨by decide, by decide⟩, (fun _ => ⟨wj_Se_makeStep, ws_Se_makeStep, by decide, T_Se, 12, rfl⟩), (fun q => by cases q), (fun q => by cases q)⟩
theorem wm_Se_88 : Cond.methodLink "ScopeLines$Search" 88 ⟨"ScopeLines$Search", "fitsAtom", "(LScopeLines$Pattern;LScopeLines$Line;I)Z"⟩ ∈ zGW := z_in3 (List.mem_of_getElem? (i := 67) rfl) rfl
theorem wj_Se_fitsAtom : Cond.instanceMethod ⟨"ScopeLines$Search", "fitsAtom", "(LScopeLines$Pattern;LScopeLines$Line;I)Z"⟩ ∈ zGW := z_in3 (List.mem_of_getElem? (i := 69) rfl) rfl
theorem ws_Se_fitsAtom : Cond.selects m_Se_fitsAtom.1.cls m_Se_fitsAtom.1 m_Se_fitsAtom.1 ∈ zGW := z_inp (q := (⟨"ScopeLines$Search", "fitsAtom", "(LScopeLines$Pattern;LScopeLines$Line;I)Z"⟩, 12)) (List.mem_of_getElem? (i := 22) rfl)
theorem cw_Se_doNext_88 : zCw m_Se_doNext m_Se_fitsAtom 88 0 6 3 := ⟨Or.inl wm_Se_88, wc_Se_fitsAtom, wn_Se, ⟨by decide, by decide, by decide +kernel⟩, ⟨by decide, by decide⟩, (fun _ => ⟨wj_Se_fitsAtom, ws_Se_fitsAtom, by decide, T_Se, 12, rfl⟩), (fun q => by cases q), (fun q => by cases q)⟩
theorem wm_Se_92 : Cond.methodLink "ScopeLines$Search" 92 ⟨"ScopeLines$Search", "goBack", "()Z"⟩ ∈ zGW := z_in3 (List.mem_of_getElem? (i := 75) rfl) rfl
theorem wj_Se_goBack : Cond.instanceMethod ⟨"ScopeLines$Search", "goBack", "()Z"⟩ ∈ zGW := z_in3 (List.mem_of_getElem? (i := 77) rfl) rfl
theorem ws_Se_goBack : Cond.selects m_Se_goBack.1.cls m_Se_goBack.1 m_Se_goBack.1 ∈ zGW := z_inp (q := (⟨"ScopeLines$Search", "goBack", "()Z"⟩, 12)) (List.mem_of_getElem? (i := 23) rfl)
theorem cw_Se_doNext_92 : zCw m_Se_doNext m_Se_goBack 92 0 6 0 := ⟨Or.inl wm_Se_92, wc_Se_goBack, wn_Se, ⟨by decide, by decide, by decide +kernel⟩, ⟨by decide, by decide⟩, (fun _ => ⟨wj_Se_goBack, ws_Se_goBack, by decide, T_Se, 12, rfl⟩), (fun q => by cases q), (fun q => by cases q)⟩
theorem wf_Se_27 : Cond.fieldLink "ScopeLines$Search" 27 "ScopeLines$Search" "begin" "I" ∈ zGW := z_in1 (List.mem_of_getElem? (i := 149) rfl) rfl
theorem fd_Se_27 : zFd "ScopeLines$Search" 27 6 2 (.int) false := ⟨R_Se, T_Se, 12, ck_Se, by decide, by decide +kernel, rfl, rfl, Or.inl wf_Se_27⟩
theorem wf_Se_30 : Cond.fieldLink "ScopeLines$Search" 30 "ScopeLines$Search" "end" "I" ∈ zGW := z_in1 (List.mem_of_getElem? (i := 152) rfl) rfl
theorem fd_Se_30 : zFd "ScopeLines$Search" 30 6 3 (.int) false := ⟨R_Se, T_Se, 12, ck_Se, by decide, by decide +kernel, rfl, rfl, Or.inl wf_Se_30⟩
theorem wm_Se_48 : Cond.methodLink "ScopeLines$Search" 48 ⟨"java/util/Arrays", "fill", "([II)V"⟩ ∈ zGW := z_in3 (List.mem_of_getElem? (i := 40) rfl) rfl
theorem wn_Ar : Cond.initialized "java/util/Arrays" ∈ zGW := z_in1 (List.mem_of_getElem? (i := 13) rfl) rfl
theorem wt_Ar_fill : Cond.static ⟨"java/util/Arrays", "fill", "([II)V"⟩ ∈ zGW := z_in3 (List.mem_of_getElem? (i := 41) rfl) rfl
theorem cw_Se_run_48 : zCw m_Se_run m_Ar_fill 48 1 0 2 := ⟨Or.inl wm_Se_48, wc_Ar_fill, wn_Ar, ⟨by decide, by decide, by decide +kernel⟩, ⟨by decide, by decide⟩, (fun q => by cases q), (fun _ => wt_Ar_fill), (fun q => by cases q)⟩
theorem wm_Se_63 : Cond.methodLink "ScopeLines$Search" 63 ⟨"ScopeLines$Search", "doNext", "(LScopeLines$Pattern;LScopeLines$Line;LScopeLines$State;)Z"⟩ ∈ zGW := z_in3 (List.mem_of_getElem? (i := 43) rfl) rfl
theorem wj_Se_doNext : Cond.instanceMethod ⟨"ScopeLines$Search", "doNext", "(LScopeLines$Pattern;LScopeLines$Line;LScopeLines$State;)Z"⟩ ∈ zGW := z_in3 (List.mem_of_getElem? (i := 45) rfl) rfl
theorem ws_Se_doNext : Cond.selects m_Se_doNext.1.cls m_Se_doNext.1 m_Se_doNext.1 ∈ zGW := z_inp (q := (⟨"ScopeLines$Search", "doNext", "(LScopeLines$Pattern;LScopeLines$Line;LScopeLines$State;)Z"⟩, 12)) (List.mem_of_getElem? (i := 18) rfl)
theorem cw_Se_run_63 : zCw m_Se_run m_Se_doNext 63 0 6 3 := ⟨Or.inl wm_Se_63, wc_Se_doNext, wn_Se, ⟨by decide, by decide, by decide +kernel⟩, ⟨by decide, by decide⟩, (fun _ => ⟨wj_Se_doNext, ws_Se_doNext, by decide, T_Se, 12, rfl⟩), (fun q => by cases q), (fun q => by cases q)⟩
theorem wf_Gr_110 : Cond.fieldLink "ScopeLines$Grammar" 110 "ScopeLines$Grammar" "winner" "I" ∈ zGW := z_in2 (List.mem_of_getElem? (i := 24) rfl) rfl
theorem fd_Gr_110 : zFd "ScopeLines$Grammar" 110 8 6 (.int) false := ⟨R_Gr, T_Gr, 10, ck_Gr, by decide, by decide +kernel, rfl, rfl, Or.inl wf_Gr_110⟩
theorem wf_Gr_129 : Cond.fieldLink "ScopeLines$Grammar" 129 "ScopeLines$Search" "begin" "I" ∈ zGW := z_in1 (List.mem_of_getElem? (i := 150) rfl) rfl
theorem fd_Gr_129 : zFd "ScopeLines$Grammar" 129 6 2 (.int) false := ⟨R_Se, T_Se, 12, ck_Se, by decide, by decide +kernel, rfl, rfl, Or.inl wf_Gr_129⟩
theorem wf_Gr_90 : Cond.fieldLink "ScopeLines$Grammar" 90 "ScopeLines$Grammar" "winnerBegin" "I" ∈ zGW := z_in2 (List.mem_of_getElem? (i := 25) rfl) rfl
theorem fd_Gr_90 : zFd "ScopeLines$Grammar" 90 8 7 (.int) false := ⟨R_Gr, T_Gr, 10, ck_Gr, by decide, by decide +kernel, rfl, rfl, Or.inl wf_Gr_90⟩
theorem wf_Gr_141 : Cond.fieldLink "ScopeLines$Grammar" 141 "ScopeLines$Search" "end" "I" ∈ zGW := z_in1 (List.mem_of_getElem? (i := 153) rfl) rfl
theorem fd_Gr_141 : zFd "ScopeLines$Grammar" 141 6 3 (.int) false := ⟨R_Se, T_Se, 12, ck_Se, by decide, by decide +kernel, rfl, rfl, Or.inl wf_Gr_141⟩
theorem wf_Gr_97 : Cond.fieldLink "ScopeLines$Grammar" 97 "ScopeLines$Grammar" "winnerEnd" "I" ∈ zGW := z_in2 (List.mem_of_getElem? (i := 26) rfl) rfl
theorem fd_Gr_97 : zFd "ScopeLines$Grammar" 97 8 8 (.int) false := ⟨R_Gr, T_Gr, 10, ck_Gr, by decide, by decide +kernel, rfl, rfl, Or.inl wf_Gr_97⟩
theorem wf_Gr_143 : Cond.fieldLink "ScopeLines$Grammar" 143 "ScopeLines$Search" "groups" "[I" ∈ zGW := z_in1 (List.mem_of_getElem? (i := 147) rfl) rfl
theorem fd_Gr_143 : zFd "ScopeLines$Grammar" 143 6 1 (.array .int) true := ⟨R_Se, T_Se, 12, ck_Se, by decide, by decide +kernel, rfl, rfl, Or.inl wf_Gr_143⟩
theorem w_Gr_146 : Cond.methodLink "ScopeLines$Grammar" 146 ⟨"java/lang/System", "arraycopy", "(Ljava/lang/Object;ILjava/lang/Object;II)V"⟩ ∈ zGW := z_in3 (List.mem_of_getElem? (i := 83) rfl) rfl
theorem cw_Gr_findWinner_103 : zCw m_Gr_findWinner m_St_innermost 103 0 1 0 := ⟨Or.inl wm_Gr_103, wc_St_innermost, wn_St, ⟨by decide, by decide, by decide +kernel⟩, ⟨by decide, by decide⟩, (fun _ => ⟨wj_St_innermost, ws_St_innermost, by decide, T_St, 4, rfl⟩), (fun q => by cases q), (fun q => by cases q)⟩
theorem wm_Gr_107 : Cond.methodLink "ScopeLines$Grammar" 107 ⟨"ScopeLines$Grammar", "listCandidates", "()V"⟩ ∈ zGW := z_in3 (List.mem_of_getElem? (i := 28) rfl) rfl
theorem wj_Gr_listCandidates : Cond.instanceMethod ⟨"ScopeLines$Grammar", "listCandidates", "()V"⟩ ∈ zGW := z_in3 (List.mem_of_getElem? (i := 30) rfl) rfl
theorem ws_Gr_listCandidates : Cond.selects m_Gr_listCandidates.1.cls m_Gr_listCandidates.1 m_Gr_listCandidates.1 ∈ zGW := z_inp (q := (⟨"ScopeLines$Grammar", "listCandidates", "()V"⟩, 10)) (List.mem_of_getElem? (i := 16) rfl)
theorem cw_Gr_findWinner_107 : zCw m_Gr_findWinner m_Gr_listCandidates 107 0 8 0 := ⟨Or.inl wm_Gr_107, wc_Gr_listCandidates, wn_Gr, ⟨by decide, by decide, by decide +kernel⟩, ⟨by decide, by decide⟩, (fun _ => ⟨wj_Gr_listCandidates, ws_Gr_listCandidates, by decide, T_Gr, 10, rfl⟩), (fun q => by cases q), (fun q => by cases q)⟩
theorem wf_Gr_116 : Cond.fieldLink "ScopeLines$Grammar" 116 "ScopeLines$Rule" "end" "LScopeLines$Pattern;" ∈ zGW := z_in1 (List.mem_of_getElem? (i := 235) rfl) rfl
theorem fd_Gr_116 : zFd "ScopeLines$Grammar" 116 7 1 (.object "ScopeLines$Pattern") true := ⟨R_Ru, T_Ru, 6, ck_Ru, by decide, by decide +kernel, rfl, rfl, Or.inl wf_Gr_116⟩
theorem wf_Gr_119 : Cond.fieldLink "ScopeLines$Grammar" 119 "ScopeLines$Rule" "pattern" "LScopeLines$Pattern;" ∈ zGW := z_in1 (List.mem_of_getElem? (i := 232) rfl) rfl
theorem fd_Gr_119 : zFd "ScopeLines$Grammar" 119 7 0 (.object "ScopeLines$Pattern") true := ⟨R_Ru, T_Ru, 6, ck_Ru, by decide, by decide +kernel, rfl, rfl, Or.inl wf_Gr_119⟩
theorem wm_Gr_122 : Cond.methodLink "ScopeLines$Grammar" 122 ⟨"ScopeLines$Search", "run", "(LScopeLines$Pattern;LScopeLines$Line;ILScopeLines$State;)V"⟩ ∈ zGW := z_in3 (List.mem_of_getElem? (i := 36) rfl) rfl
theorem wj_Se_run : Cond.instanceMethod ⟨"ScopeLines$Search", "run", "(LScopeLines$Pattern;LScopeLines$Line;ILScopeLines$State;)V"⟩ ∈ zGW := z_in3 (List.mem_of_getElem? (i := 37) rfl) rfl
theorem ws_Se_run : Cond.selects m_Se_run.1.cls m_Se_run.1 m_Se_run.1 ∈ zGW := z_in3 (List.mem_of_getElem? (i := 38) rfl) rfl
theorem cw_Gr_findWinner_122 : zCw m_Gr_findWinner m_Se_run 122 0 6 4 := ⟨Or.inl wm_Gr_122, wc_Se_run, wn_Se, ⟨by decide, by decide, by decide +kernel⟩, ⟨by decide, by decide⟩, (fun _ => ⟨wj_Se_run, ws_Se_run, by decide, T_Se, 12, rfl⟩), (fun q => by cases q), (fun q => by cases q)⟩
theorem wf_Gr_126 : Cond.fieldLink "ScopeLines$Grammar" 126 "ScopeLines$Search" "isOver" "Z" ∈ zGW := z_in1 (List.mem_of_getElem? (i := 158) rfl) rfl
theorem fd_Gr_126 : zFd "ScopeLines$Grammar" 126 6 5 (.boolean) false := ⟨R_Se, T_Se, 12, ck_Se, by decide, by decide +kernel, rfl, rfl, Or.inl wf_Gr_126⟩
theorem wm_Gr_132 : Cond.methodLink "ScopeLines$Grammar" 132 ⟨"ScopeLines$Grammar", "keepWinner", "(I)V"⟩ ∈ zGW := z_in3 (List.mem_of_getElem? (i := 79) rfl) rfl
theorem wj_Gr_keepWinner : Cond.instanceMethod ⟨"ScopeLines$Grammar", "keepWinner", "(I)V"⟩ ∈ zGW := z_in3 (List.mem_of_getElem? (i := 81) rfl) rfl
theorem ws_Gr_keepWinner : Cond.selects m_Gr_keepWinner.1.cls m_Gr_keepWinner.1 m_Gr_keepWinner.1 ∈ zGW := z_inp (q := (⟨"ScopeLines$Grammar", "keepWinner", "(I)V"⟩, 10)) (List.mem_of_getElem? (i := 24) rfl)
theorem cw_Gr_findWinner_132 : zCw m_Gr_findWinner m_Gr_keepWinner 132 0 8 1 := ⟨Or.inl wm_Gr_132, wc_Gr_keepWinner, wn_Gr, ⟨by decide, by decide, by decide +kernel⟩, ⟨by decide, by decide⟩, (fun _ => ⟨wj_Gr_keepWinner, ws_Gr_keepWinner, by decide, T_Gr, 10, rfl⟩), (fun q => by cases q), (fun q => by cases q)⟩
theorem wf_Li_42 : Cond.fieldLink "ScopeLines$Line" 42 "ScopeLines$Line" "tokenCount" "I" ∈ zGW := z_in2 (List.mem_of_getElem? (i := 69) rfl) rfl
theorem fd_Li_42 : zFd "ScopeLines$Line" 42 2 5 (.int) false := ⟨R_Li, T_Li, 8, ck_Li, by decide, by decide +kernel, rfl, rfl, Or.inl wf_Li_42⟩
theorem wm_Gr_165 : Cond.methodLink "ScopeLines$Grammar" 165 ⟨"ScopeLines$Line", "addToken", "(I)V"⟩ ∈ zGW := z_in3 (List.mem_of_getElem? (i := 92) rfl) rfl
theorem wj_Li_addToken : Cond.instanceMethod ⟨"ScopeLines$Line", "addToken", "(I)V"⟩ ∈ zGW := z_in3 (List.mem_of_getElem? (i := 93) rfl) rfl
theorem ws_Li_addToken : Cond.selects m_Li_addToken.1.cls m_Li_addToken.1 m_Li_addToken.1 ∈ zGW := z_in3 (List.mem_of_getElem? (i := 94) rfl) rfl
theorem cw_Gr_cut_165 : zCw m_Gr_cut m_Li_addToken 165 0 2 1 := ⟨Or.inl wm_Gr_165, wc_Li_addToken, wn_Li, ⟨by decide, by decide, by decide +kernel⟩, ⟨by decide, by decide⟩, (fun _ => ⟨wj_Li_addToken, ws_Li_addToken, by decide, T_Li, 8, rfl⟩), (fun q => by cases q), (fun q => by cases q)⟩
theorem wf_Gr_152 : Cond.fieldLink "ScopeLines$Grammar" 152 "ScopeLines$State" "open" "I" ∈ zGW := z_in1 (List.mem_of_getElem? (i := 107) rfl) rfl
theorem fd_Gr_152 : zFd "ScopeLines$Grammar" 152 1 0 (.int) false := ⟨R_St, T_St, 4, ck_St, by decide, by decide +kernel, rfl, rfl, Or.inl wf_Gr_152⟩
theorem wf_Gr_168 : Cond.fieldLink "ScopeLines$Grammar" 168 "ScopeLines$State" "ranges" "[I" ∈ zGW := z_in1 (List.mem_of_getElem? (i := 110) rfl) rfl
theorem fd_Gr_168 : zFd "ScopeLines$Grammar" 168 1 1 (.array .int) true := ⟨R_St, T_St, 4, ck_St, by decide, by decide +kernel, rfl, rfl, Or.inl wf_Gr_168⟩
theorem wm_Gr_162 : Cond.methodLink "ScopeLines$Grammar" 162 ⟨"ScopeLines$Line", "addScope", "(I)V"⟩ ∈ zGW := z_in3 (List.mem_of_getElem? (i := 96) rfl) rfl
theorem wj_Li_addScope : Cond.instanceMethod ⟨"ScopeLines$Line", "addScope", "(I)V"⟩ ∈ zGW := z_in3 (List.mem_of_getElem? (i := 97) rfl) rfl
theorem ws_Li_addScope : Cond.selects m_Li_addScope.1.cls m_Li_addScope.1 m_Li_addScope.1 ∈ zGW := z_in3 (List.mem_of_getElem? (i := 98) rfl) rfl
theorem cw_Gr_cut_162 : zCw m_Gr_cut m_Li_addScope 162 0 2 1 := ⟨Or.inl wm_Gr_162, wc_Li_addScope, wn_Li, ⟨by decide, by decide, by decide +kernel⟩, ⟨by decide, by decide⟩, (fun _ => ⟨wj_Li_addScope, ws_Li_addScope, by decide, T_Li, 8, rfl⟩), (fun q => by cases q), (fun q => by cases q)⟩
theorem wm_Gr_59 : Cond.methodLink "ScopeLines$Grammar" 59 ⟨"ScopeLines$State", "copy", "(LScopeLines$State;)V"⟩ ∈ zGW := z_in3 (List.mem_of_getElem? (i := 19) rfl) rfl
theorem wj_St_copy : Cond.instanceMethod ⟨"ScopeLines$State", "copy", "(LScopeLines$State;)V"⟩ ∈ zGW := z_in3 (List.mem_of_getElem? (i := 11) rfl) rfl
theorem ws_St_copy : Cond.selects m_St_copy.1.cls m_St_copy.1 m_St_copy.1 ∈ zGW := z_in3 (List.mem_of_getElem? (i := 12) rfl) rfl
theorem cw_Gr_mark_59 : zCw m_Gr_mark m_St_copy 59 0 1 1 := ⟨Or.inl wm_Gr_59, wc_St_copy, wn_St, ⟨by decide, by decide, by decide +kernel⟩, ⟨by decide, by decide⟩, (fun _ => ⟨wj_St_copy, ws_St_copy, by decide, T_St, 4, rfl⟩), (fun q => by cases q), (fun q => by cases q)⟩
theorem wf_Gr_63 : Cond.fieldLink "ScopeLines$Grammar" 63 "ScopeLines$Line" "tokenCount" "I" ∈ zGW := z_in2 (List.mem_of_getElem? (i := 70) rfl) rfl
theorem fd_Gr_63 : zFd "ScopeLines$Grammar" 63 2 5 (.int) false := ⟨R_Li, T_Li, 8, ck_Li, by decide, by decide +kernel, rfl, rfl, Or.inl wf_Gr_63⟩
theorem wf_Gr_68 : Cond.fieldLink "ScopeLines$Grammar" 68 "ScopeLines$Line" "isMarked" "Z" ∈ zGW := z_in2 (List.mem_of_getElem? (i := 72) rfl) rfl
theorem fd_Gr_68 : zFd "ScopeLines$Grammar" 68 2 6 (.boolean) false := ⟨R_Li, T_Li, 8, ck_Li, by decide, by decide +kernel, rfl, rfl, Or.inl wf_Gr_68⟩
theorem wf_Gr_83 : Cond.fieldLink "ScopeLines$Grammar" 83 "ScopeLines$Line" "size" "I" ∈ zGW := z_in2 (List.mem_of_getElem? (i := 61) rfl) rfl
theorem fd_Gr_83 : zFd "ScopeLines$Grammar" 83 2 1 (.int) false := ⟨R_Li, T_Li, 8, ck_Li, by decide, by decide +kernel, rfl, rfl, Or.inl wf_Gr_83⟩
theorem wm_Gr_86 : Cond.methodLink "ScopeLines$Grammar" 86 ⟨"ScopeLines$Grammar", "cut", "(LScopeLines$Line;II)Z"⟩ ∈ zGW := z_in3 (List.mem_of_getElem? (i := 88) rfl) rfl
theorem wj_Gr_cut : Cond.instanceMethod ⟨"ScopeLines$Grammar", "cut", "(LScopeLines$Line;II)Z"⟩ ∈ zGW := z_in3 (List.mem_of_getElem? (i := 90) rfl) rfl
theorem ws_Gr_cut : Cond.selects m_Gr_cut.1.cls m_Gr_cut.1 m_Gr_cut.1 ∈ zGW := z_inp (q := (⟨"ScopeLines$Grammar", "cut", "(LScopeLines$Line;II)Z"⟩, 10)) (List.mem_of_getElem? (i := 26) rfl)
theorem cw_Gr_mark_86 : zCw m_Gr_mark m_Gr_cut 86 0 8 3 := ⟨Or.inl wm_Gr_86, wc_Gr_cut, wn_Gr, ⟨by decide, by decide, by decide +kernel⟩, ⟨by decide, by decide⟩, (fun _ => ⟨wj_Gr_cut, ws_Gr_cut, by decide, T_Gr, 10, rfl⟩), (fun q => by cases q), (fun q => by cases q)⟩
theorem wf_St_26 : Cond.fieldLink "ScopeLines$State" 26 "ScopeLines$Line" "characters" "[C" ∈ zGW := z_in2 (List.mem_of_getElem? (i := 57) rfl) rfl
theorem fd_St_26 : zFd "ScopeLines$State" 26 2 0 (.array .char) true := ⟨R_Li, T_Li, 8, ck_Li, by decide, by decide +kernel, rfl, rfl, Or.inl wf_St_26⟩
theorem cw_Gr_takeWinner_86 : zCw m_Gr_takeWinner m_Gr_cut 86 0 8 3 := ⟨Or.inl wm_Gr_86, wc_Gr_cut, wn_Gr, ⟨by decide, by decide, by decide +kernel⟩, ⟨by decide, by decide⟩, (fun _ => ⟨wj_Gr_cut, ws_Gr_cut, by decide, T_Gr, 10, rfl⟩), (fun q => by cases q), (fun q => by cases q)⟩
theorem wm_Gr_155 : Cond.methodLink "ScopeLines$Grammar" 155 ⟨"ScopeLines$State", "push", "(I)V"⟩ ∈ zGW := z_in3 (List.mem_of_getElem? (i := 108) rfl) rfl
theorem wj_St_push : Cond.instanceMethod ⟨"ScopeLines$State", "push", "(I)V"⟩ ∈ zGW := z_in3 (List.mem_of_getElem? (i := 109) rfl) rfl
theorem ws_St_push : Cond.selects m_St_push.1.cls m_St_push.1 m_St_push.1 ∈ zGW := z_in3 (List.mem_of_getElem? (i := 110) rfl) rfl
theorem cw_Gr_takeWinner_155 : zCw m_Gr_takeWinner m_St_push 155 0 1 1 := ⟨Or.inl wm_Gr_155, wc_St_push, wn_St, ⟨by decide, by decide, by decide +kernel⟩, ⟨by decide, by decide⟩, (fun _ => ⟨wj_St_push, ws_St_push, by decide, T_St, 4, rfl⟩), (fun q => by cases q), (fun q => by cases q)⟩
theorem wm_Gr_158 : Cond.methodLink "ScopeLines$Grammar" 158 ⟨"ScopeLines$State", "keepText", "(ILScopeLines$Line;II)V"⟩ ∈ zGW := z_in3 (List.mem_of_getElem? (i := 112) rfl) rfl
theorem wj_St_keepText : Cond.instanceMethod ⟨"ScopeLines$State", "keepText", "(ILScopeLines$Line;II)V"⟩ ∈ zGW := z_in3 (List.mem_of_getElem? (i := 113) rfl) rfl
theorem ws_St_keepText : Cond.selects m_St_keepText.1.cls m_St_keepText.1 m_St_keepText.1 ∈ zGW := z_in3 (List.mem_of_getElem? (i := 114) rfl) rfl
theorem cw_Gr_takeWinner_158 : zCw m_Gr_takeWinner m_St_keepText 158 0 1 4 := ⟨Or.inl wm_Gr_158, wc_St_keepText, wn_St, ⟨by decide, by decide, by decide +kernel⟩, ⟨by decide, by decide⟩, (fun _ => ⟨wj_St_keepText, ws_St_keepText, by decide, T_St, 4, rfl⟩), (fun q => by cases q), (fun q => by cases q)⟩
theorem cw_Gr_takeWinner_162 : zCw m_Gr_takeWinner m_Li_addScope 162 0 2 1 := ⟨Or.inl wm_Gr_162, wc_Li_addScope, wn_Li, ⟨by decide, by decide, by decide +kernel⟩, ⟨by decide, by decide⟩, (fun _ => ⟨wj_Li_addScope, ws_Li_addScope, by decide, T_Li, 8, rfl⟩), (fun q => by cases q), (fun q => by cases q)⟩
theorem cw_Gr_tokenize_59 : zCw m_Gr_tokenize m_St_copy 59 0 1 1 := ⟨Or.inl wm_Gr_59, wc_St_copy, wn_St, ⟨by decide, by decide, by decide +kernel⟩, ⟨by decide, by decide⟩, (fun _ => ⟨wj_St_copy, ws_St_copy, by decide, T_St, 4, rfl⟩), (fun q => by cases q), (fun q => by cases q)⟩
theorem wm_Gr_71 : Cond.methodLink "ScopeLines$Grammar" 71 ⟨"ScopeLines$Grammar", "findWinner", "(LScopeLines$Line;I)Z"⟩ ∈ zGW := z_in3 (List.mem_of_getElem? (i := 20) rfl) rfl
theorem wj_Gr_findWinner : Cond.instanceMethod ⟨"ScopeLines$Grammar", "findWinner", "(LScopeLines$Line;I)Z"⟩ ∈ zGW := z_in3 (List.mem_of_getElem? (i := 22) rfl) rfl
theorem ws_Gr_findWinner : Cond.selects m_Gr_findWinner.1.cls m_Gr_findWinner.1 m_Gr_findWinner.1 ∈ zGW := z_inp (q := (⟨"ScopeLines$Grammar", "findWinner", "(LScopeLines$Line;I)Z"⟩, 10)) (List.mem_of_getElem? (i := 15) rfl)
theorem cw_Gr_tokenize_71 : zCw m_Gr_tokenize m_Gr_findWinner 71 0 8 2 := ⟨Or.inl wm_Gr_71, wc_Gr_findWinner, wn_Gr, ⟨by decide, by decide, by decide +kernel⟩, ⟨by decide, by decide⟩, (fun _ => ⟨wj_Gr_findWinner, ws_Gr_findWinner, by decide, T_Gr, 10, rfl⟩), (fun q => by cases q), (fun q => by cases q)⟩
theorem wm_Gr_75 : Cond.methodLink "ScopeLines$Grammar" 75 ⟨"ScopeLines$Grammar", "mark", "(LScopeLines$Line;LScopeLines$State;)V"⟩ ∈ zGW := z_in3 (List.mem_of_getElem? (i := 84) rfl) rfl
theorem wj_Gr_mark : Cond.instanceMethod ⟨"ScopeLines$Grammar", "mark", "(LScopeLines$Line;LScopeLines$State;)V"⟩ ∈ zGW := z_in3 (List.mem_of_getElem? (i := 86) rfl) rfl
theorem ws_Gr_mark : Cond.selects m_Gr_mark.1.cls m_Gr_mark.1 m_Gr_mark.1 ∈ zGW := z_inp (q := (⟨"ScopeLines$Grammar", "mark", "(LScopeLines$Line;LScopeLines$State;)V"⟩, 10)) (List.mem_of_getElem? (i := 25) rfl)
theorem cw_Gr_tokenize_75 : zCw m_Gr_tokenize m_Gr_mark 75 0 8 2 := ⟨Or.inl wm_Gr_75, wc_Gr_mark, wn_Gr, ⟨by decide, by decide, by decide +kernel⟩, ⟨by decide, by decide⟩, (fun _ => ⟨wj_Gr_mark, ws_Gr_mark, by decide, T_Gr, 10, rfl⟩), (fun q => by cases q), (fun q => by cases q)⟩
theorem wm_Gr_79 : Cond.methodLink "ScopeLines$Grammar" 79 ⟨"ScopeLines$Grammar", "isLast", "(I)Z"⟩ ∈ zGW := z_in3 (List.mem_of_getElem? (i := 100) rfl) rfl
theorem wj_Gr_isLast : Cond.instanceMethod ⟨"ScopeLines$Grammar", "isLast", "(I)Z"⟩ ∈ zGW := z_in3 (List.mem_of_getElem? (i := 102) rfl) rfl
theorem ws_Gr_isLast : Cond.selects m_Gr_isLast.1.cls m_Gr_isLast.1 m_Gr_isLast.1 ∈ zGW := z_inp (q := (⟨"ScopeLines$Grammar", "isLast", "(I)Z"⟩, 10)) (List.mem_of_getElem? (i := 27) rfl)
theorem cw_Gr_tokenize_79 : zCw m_Gr_tokenize m_Gr_isLast 79 0 8 1 := ⟨Or.inl wm_Gr_79, wc_Gr_isLast, wn_Gr, ⟨by decide, by decide, by decide +kernel⟩, ⟨by decide, by decide⟩, (fun _ => ⟨wj_Gr_isLast, ws_Gr_isLast, by decide, T_Gr, 10, rfl⟩), (fun q => by cases q), (fun q => by cases q)⟩
theorem cw_Gr_tokenize_86 : zCw m_Gr_tokenize m_Gr_cut 86 0 8 3 := ⟨Or.inl wm_Gr_86, wc_Gr_cut, wn_Gr, ⟨by decide, by decide, by decide +kernel⟩, ⟨by decide, by decide⟩, (fun _ => ⟨wj_Gr_cut, ws_Gr_cut, by decide, T_Gr, 10, rfl⟩), (fun q => by cases q), (fun q => by cases q)⟩
theorem wm_Gr_93 : Cond.methodLink "ScopeLines$Grammar" 93 ⟨"ScopeLines$Grammar", "takeWinner", "(LScopeLines$Line;)V"⟩ ∈ zGW := z_in3 (List.mem_of_getElem? (i := 104) rfl) rfl
theorem wj_Gr_takeWinner : Cond.instanceMethod ⟨"ScopeLines$Grammar", "takeWinner", "(LScopeLines$Line;)V"⟩ ∈ zGW := z_in3 (List.mem_of_getElem? (i := 106) rfl) rfl
theorem ws_Gr_takeWinner : Cond.selects m_Gr_takeWinner.1.cls m_Gr_takeWinner.1 m_Gr_takeWinner.1 ∈ zGW := z_inp (q := (⟨"ScopeLines$Grammar", "takeWinner", "(LScopeLines$Line;)V"⟩, 10)) (List.mem_of_getElem? (i := 28) rfl)
theorem cw_Gr_tokenize_93 : zCw m_Gr_tokenize m_Gr_takeWinner 93 0 8 1 := ⟨Or.inl wm_Gr_93, wc_Gr_takeWinner, wn_Gr, ⟨by decide, by decide, by decide +kernel⟩, ⟨by decide, by decide⟩, (fun _ => ⟨wj_Gr_takeWinner, ws_Gr_takeWinner, by decide, T_Gr, 10, rfl⟩), (fun q => by cases q), (fun q => by cases q)⟩
theorem wf_Gr_100 : Cond.fieldLink "ScopeLines$Grammar" 100 "ScopeLines$Line" "end" "LScopeLines$State;" ∈ zGW := z_in2 (List.mem_of_getElem? (i := 75) rfl) rfl
theorem fd_Gr_100 : zFd "ScopeLines$Grammar" 100 2 7 (.object "ScopeLines$State") true := ⟨R_Li, T_Li, 8, ck_Li, by decide, by decide +kernel, rfl, rfl, Or.inl wf_Gr_100⟩
theorem wm_St_37 : Cond.methodLink "ScopeLines$State" 37 ⟨"ScopeLines$State", "isSameText", "(LScopeLines$State;I)Z"⟩ ∈ zGW := z_in3 (List.mem_of_getElem? (i := 120) rfl) rfl
theorem wj_St_isSameText : Cond.instanceMethod ⟨"ScopeLines$State", "isSameText", "(LScopeLines$State;I)Z"⟩ ∈ zGW := z_in3 (List.mem_of_getElem? (i := 122) rfl) rfl
theorem ws_St_isSameText : Cond.selects m_St_isSameText.1.cls m_St_isSameText.1 m_St_isSameText.1 ∈ zGW := z_inp (q := (⟨"ScopeLines$State", "isSameText", "(LScopeLines$State;I)Z"⟩, 4)) (List.mem_of_getElem? (i := 29) rfl)
theorem cw_St_isSame_37 : zCw m_St_isSame m_St_isSameText 37 0 1 2 := ⟨Or.inl wm_St_37, wc_St_isSameText, wn_St, ⟨by decide, by decide, by decide +kernel⟩, ⟨by decide, by decide⟩, (fun _ => ⟨wj_St_isSameText, ws_St_isSameText, by decide, T_St, 4, rfl⟩), (fun q => by cases q), (fun q => by cases q)⟩
theorem wf_SL_119 : Cond.fieldLink "ScopeLines" 119 "ScopeLines" "lineCount" "I" ∈ zGW := z_in2 (List.mem_of_getElem? (i := 99) rfl) rfl
theorem fd_SL_119 : zFd "ScopeLines" 119 0 5 (.int) false := ⟨R_SL, T_SL, 10, ck_SL, by decide, by decide +kernel, rfl, rfl, Or.inl wf_SL_119⟩
theorem wf_SL_157 : Cond.fieldLink "ScopeLines" 157 "ScopeLines$Line" "end" "LScopeLines$State;" ∈ zGW := z_in2 (List.mem_of_getElem? (i := 76) rfl) rfl
theorem fd_SL_157 : zFd "ScopeLines" 157 2 7 (.object "ScopeLines$State") true := ⟨R_Li, T_Li, 8, ck_Li, by decide, by decide +kernel, rfl, rfl, Or.inl wf_SL_157⟩
theorem wm_SL_199 : Cond.methodLink "ScopeLines" 199 ⟨"ScopeLines$State", "copy", "(LScopeLines$State;)V"⟩ ∈ zGW := z_in3 (List.mem_of_getElem? (i := 10) rfl) rfl
theorem cw_SL_tokenizeFrom_199 : zCw m_SL_tokenizeFrom m_St_copy 199 0 1 1 := ⟨Or.inl wm_SL_199, wc_St_copy, wn_St, ⟨by decide, by decide, by decide +kernel⟩, ⟨by decide, by decide⟩, (fun _ => ⟨wj_St_copy, ws_St_copy, by decide, T_St, 4, rfl⟩), (fun q => by cases q), (fun q => by cases q)⟩
theorem wm_SL_203 : Cond.methodLink "ScopeLines" 203 ⟨"ScopeLines$Grammar", "tokenize", "(LScopeLines$Line;LScopeLines$State;)V"⟩ ∈ zGW := z_in3 (List.mem_of_getElem? (i := 15) rfl) rfl
theorem wj_Gr_tokenize : Cond.instanceMethod ⟨"ScopeLines$Grammar", "tokenize", "(LScopeLines$Line;LScopeLines$State;)V"⟩ ∈ zGW := z_in3 (List.mem_of_getElem? (i := 16) rfl) rfl
theorem ws_Gr_tokenize : Cond.selects m_Gr_tokenize.1.cls m_Gr_tokenize.1 m_Gr_tokenize.1 ∈ zGW := z_in3 (List.mem_of_getElem? (i := 17) rfl) rfl
theorem cw_SL_tokenizeFrom_203 : zCw m_SL_tokenizeFrom m_Gr_tokenize 203 0 8 2 := ⟨Or.inl wm_SL_203, wc_Gr_tokenize, wn_Gr, ⟨by decide, by decide, by decide +kernel⟩, ⟨by decide, by decide⟩, (fun _ => ⟨wj_Gr_tokenize, ws_Gr_tokenize, by decide, T_Gr, 10, rfl⟩), (fun q => by cases q), (fun q => by cases q)⟩
theorem wm_SL_207 : Cond.methodLink "ScopeLines" 207 ⟨"ScopeLines$State", "isSame", "(LScopeLines$State;)Z"⟩ ∈ zGW := z_in3 (List.mem_of_getElem? (i := 116) rfl) rfl
theorem wj_St_isSame : Cond.instanceMethod ⟨"ScopeLines$State", "isSame", "(LScopeLines$State;)Z"⟩ ∈ zGW := z_in3 (List.mem_of_getElem? (i := 117) rfl) rfl
theorem ws_St_isSame : Cond.selects m_St_isSame.1.cls m_St_isSame.1 m_St_isSame.1 ∈ zGW := z_in3 (List.mem_of_getElem? (i := 118) rfl) rfl
theorem cw_SL_tokenizeFrom_207 : zCw m_SL_tokenizeFrom m_St_isSame 207 0 1 1 := ⟨Or.inl wm_SL_207, wc_St_isSame, wn_St, ⟨by decide, by decide, by decide +kernel⟩, ⟨by decide, by decide⟩, (fun _ => ⟨wj_St_isSame, ws_St_isSame, by decide, T_St, 4, rfl⟩), (fun q => by cases q), (fun q => by cases q)⟩
theorem wf_SL_129 : Cond.fieldLink "ScopeLines" 129 "ScopeLines" "passCount" "I" ∈ zGW := z_in2 (List.mem_of_getElem? (i := 100) rfl) rfl
theorem fd_SL_129 : zFd "ScopeLines" 129 0 6 (.int) false := ⟨R_SL, T_SL, 10, ck_SL, by decide, by decide +kernel, rfl, rfl, Or.inl wf_SL_129⟩
theorem wm_SL_66 : Cond.methodLink "ScopeLines" 66 ⟨"ScopeLines$Grammar", "isRange", "(I)Z"⟩ ∈ zGW := z_in2 (List.mem_of_getElem? (i := 137) rfl) rfl
theorem wj_Gr_isRange : Cond.instanceMethod ⟨"ScopeLines$Grammar", "isRange", "(I)Z"⟩ ∈ zGW := z_in2 (List.mem_of_getElem? (i := 138) rfl) rfl
theorem ws_Gr_isRange : Cond.selects m_Gr_isRange.1.cls m_Gr_isRange.1 m_Gr_isRange.1 ∈ zGW := z_in2 (List.mem_of_getElem? (i := 139) rfl) rfl
theorem cw_SL_piece_66 : zCw m_SL_piece m_Gr_isRange 66 0 8 1 := ⟨Or.inl wm_SL_66, wc_Gr_isRange, wn_Gr, ⟨by decide, by decide, by decide +kernel⟩, ⟨by decide, by decide⟩, (fun _ => ⟨wj_Gr_isRange, ws_Gr_isRange, by decide, T_Gr, 10, rfl⟩), (fun q => by cases q), (fun q => by cases q)⟩
theorem wm_SL_70 : Cond.methodLink "ScopeLines" 70 ⟨"ScopeLines", "isScope", "(I)Z"⟩ ∈ zGW := z_in2 (List.mem_of_getElem? (i := 141) rfl) rfl
theorem wn_SL : Cond.initialized "ScopeLines" ∈ zGW := z_in1 (List.mem_of_getElem? (i := 1) rfl) rfl
theorem wt_SL_isScope : Cond.static ⟨"ScopeLines", "isScope", "(I)Z"⟩ ∈ zGW := z_in2 (List.mem_of_getElem? (i := 142) rfl) rfl
theorem cw_SL_piece_70 : zCw m_SL_piece m_SL_isScope 70 1 0 1 := ⟨Or.inl wm_SL_70, wc_SL_isScope, wn_SL, ⟨by decide, by decide, by decide +kernel⟩, ⟨by decide, by decide⟩, (fun q => by cases q), (fun _ => wt_SL_isScope), (fun q => by cases q)⟩
theorem wm_SL_73 : Cond.methodLink "ScopeLines" 73 ⟨"ScopeLines$Grammar", "nextRule", "()LScopeLines$Rule;"⟩ ∈ zGW := z_in2 (List.mem_of_getElem? (i := 144) rfl) rfl
theorem cw_SL_piece_73 : zCw m_SL_piece m_Gr_nextRule 73 0 8 0 := ⟨Or.inl wm_SL_73, wc_Gr_nextRule, wn_Gr, ⟨by decide, by decide, by decide +kernel⟩, ⟨by decide, by decide⟩, (fun _ => ⟨wj_Gr_nextRule, ws_Gr_nextRule, by decide, T_Gr, 10, rfl⟩), (fun q => by cases q), (fun q => by cases q)⟩
theorem wf_SL_77 : Cond.fieldLink "ScopeLines" 77 "ScopeLines$Rule" "pattern" "LScopeLines$Pattern;" ∈ zGW := z_in1 (List.mem_of_getElem? (i := 231) rfl) rfl
theorem fd_SL_77 : zFd "ScopeLines" 77 7 0 (.object "ScopeLines$Pattern") true := ⟨R_Ru, T_Ru, 6, ck_Ru, by decide, by decide +kernel, rfl, rfl, Or.inl wf_SL_77⟩
theorem wm_SL_83 : Cond.methodLink "ScopeLines" 83 ⟨"ScopeLines$Parser", "parse", "([CIIZLScopeLines$Pattern;)Z"⟩ ∈ zGW := z_in2 (List.mem_of_getElem? (i := 148) rfl) rfl
theorem wj_Pr_parse : Cond.instanceMethod ⟨"ScopeLines$Parser", "parse", "([CIIZLScopeLines$Pattern;)Z"⟩ ∈ zGW := z_in2 (List.mem_of_getElem? (i := 149) rfl) rfl
theorem ws_Pr_parse : Cond.selects m_Pr_parse.1.cls m_Pr_parse.1 m_Pr_parse.1 ∈ zGW := z_in2 (List.mem_of_getElem? (i := 150) rfl) rfl
theorem cw_SL_piece_83 : zCw m_SL_piece m_Pr_parse 83 0 5 5 := ⟨Or.inl wm_SL_83, wc_Pr_parse, wn_Pr, ⟨by decide, by decide, by decide +kernel⟩, ⟨by decide, by decide⟩, (fun _ => ⟨wj_Pr_parse, ws_Pr_parse, by decide, T_Pr, 15, rfl⟩), (fun q => by cases q), (fun q => by cases q)⟩
theorem wm_SL_90 : Cond.methodLink "ScopeLines" 90 ⟨"ScopeLines", "addRule", "(IIZ)I"⟩ ∈ zGW := z_in2 (List.mem_of_getElem? (i := 237) rfl) rfl
theorem wj_SL_addRule : Cond.instanceMethod ⟨"ScopeLines", "addRule", "(IIZ)I"⟩ ∈ zGW := z_in2 (List.mem_of_getElem? (i := 239) rfl) rfl
theorem ws_SL_addRule : Cond.selects m_SL_addRule.1.cls m_SL_addRule.1 m_SL_addRule.1 ∈ zGW := z_inp (q := (⟨"ScopeLines", "addRule", "(IIZ)I"⟩, 10)) (List.mem_of_getElem? (i := 13) rfl)
theorem cw_SL_piece_90 : zCw m_SL_piece m_SL_addRule 90 0 0 3 := ⟨Or.inl wm_SL_90, wc_SL_addRule, wn_SL, ⟨by decide, by decide, by decide +kernel⟩, ⟨by decide, by decide⟩, (fun _ => ⟨wj_SL_addRule, ws_SL_addRule, by decide, T_SL, 10, rfl⟩), (fun q => by cases q), (fun q => by cases q)⟩
theorem wm_SL_94 : Cond.methodLink "ScopeLines" 94 ⟨"ScopeLines", "tokenizeFrom", "(IZ)I"⟩ ∈ zGW := z_in3 (List.mem_of_getElem? (i := 6) rfl) rfl
theorem wj_SL_tokenizeFrom : Cond.instanceMethod ⟨"ScopeLines", "tokenizeFrom", "(IZ)I"⟩ ∈ zGW := z_in3 (List.mem_of_getElem? (i := 8) rfl) rfl
theorem ws_SL_tokenizeFrom : Cond.selects m_SL_tokenizeFrom.1.cls m_SL_tokenizeFrom.1 m_SL_tokenizeFrom.1 ∈ zGW := z_inp (q := (⟨"ScopeLines", "tokenizeFrom", "(IZ)I"⟩, 10)) (List.mem_of_getElem? (i := 14) rfl)
theorem cw_SL_piece_94 : zCw m_SL_piece m_SL_tokenizeFrom 94 0 0 2 := ⟨Or.inl wm_SL_94, wc_SL_tokenizeFrom, wn_SL, ⟨by decide, by decide, by decide +kernel⟩, ⟨by decide, by decide⟩, (fun _ => ⟨wj_SL_tokenizeFrom, ws_SL_tokenizeFrom, by decide, T_SL, 10, rfl⟩), (fun q => by cases q), (fun q => by cases q)⟩
theorem cw_SL_range_66 : zCw m_SL_range m_Gr_isRange 66 0 8 1 := ⟨Or.inl wm_SL_66, wc_Gr_isRange, wn_Gr, ⟨by decide, by decide, by decide +kernel⟩, ⟨by decide, by decide⟩, (fun _ => ⟨wj_Gr_isRange, ws_Gr_isRange, by decide, T_Gr, 10, rfl⟩), (fun q => by cases q), (fun q => by cases q)⟩
theorem cw_SL_range_70 : zCw m_SL_range m_SL_isScope 70 1 0 1 := ⟨Or.inl wm_SL_70, wc_SL_isScope, wn_SL, ⟨by decide, by decide, by decide +kernel⟩, ⟨by decide, by decide⟩, (fun q => by cases q), (fun _ => wt_SL_isScope), (fun q => by cases q)⟩
theorem cw_SL_range_73 : zCw m_SL_range m_Gr_nextRule 73 0 8 0 := ⟨Or.inl wm_SL_73, wc_Gr_nextRule, wn_Gr, ⟨by decide, by decide, by decide +kernel⟩, ⟨by decide, by decide⟩, (fun _ => ⟨wj_Gr_nextRule, ws_Gr_nextRule, by decide, T_Gr, 10, rfl⟩), (fun q => by cases q), (fun q => by cases q)⟩
theorem wm_SL_98 : Cond.methodLink "ScopeLines" 98 ⟨"ScopeLines", "firstBlank", "()I"⟩ ∈ zGW := z_in3 (List.mem_of_getElem? (i := 128) rfl) rfl
theorem wj_SL_firstBlank : Cond.instanceMethod ⟨"ScopeLines", "firstBlank", "()I"⟩ ∈ zGW := z_in3 (List.mem_of_getElem? (i := 130) rfl) rfl
theorem ws_SL_firstBlank : Cond.selects m_SL_firstBlank.1.cls m_SL_firstBlank.1 m_SL_firstBlank.1 ∈ zGW := z_inp (q := (⟨"ScopeLines", "firstBlank", "()I"⟩, 10)) (List.mem_of_getElem? (i := 30) rfl)
theorem cw_SL_range_98 : zCw m_SL_range m_SL_firstBlank 98 0 0 0 := ⟨Or.inl wm_SL_98, wc_SL_firstBlank, wn_SL, ⟨by decide, by decide, by decide +kernel⟩, ⟨by decide, by decide⟩, (fun _ => ⟨wj_SL_firstBlank, ws_SL_firstBlank, by decide, T_SL, 10, rfl⟩), (fun q => by cases q), (fun q => by cases q)⟩
theorem cw_SL_range_83 : zCw m_SL_range m_Pr_parse 83 0 5 5 := ⟨Or.inl wm_SL_83, wc_Pr_parse, wn_Pr, ⟨by decide, by decide, by decide +kernel⟩, ⟨by decide, by decide⟩, (fun _ => ⟨wj_Pr_parse, ws_Pr_parse, by decide, T_Pr, 15, rfl⟩), (fun q => by cases q), (fun q => by cases q)⟩
theorem wf_SL_102 : Cond.fieldLink "ScopeLines" 102 "ScopeLines$Rule" "end" "LScopeLines$Pattern;" ∈ zGW := z_in1 (List.mem_of_getElem? (i := 234) rfl) rfl
theorem fd_SL_102 : zFd "ScopeLines" 102 7 1 (.object "ScopeLines$Pattern") true := ⟨R_Ru, T_Ru, 6, ck_Ru, by decide, by decide +kernel, rfl, rfl, Or.inl wf_SL_102⟩
theorem cw_SL_range_90 : zCw m_SL_range m_SL_addRule 90 0 0 3 := ⟨Or.inl wm_SL_90, wc_SL_addRule, wn_SL, ⟨by decide, by decide, by decide +kernel⟩, ⟨by decide, by decide⟩, (fun _ => ⟨wj_SL_addRule, ws_SL_addRule, by decide, T_SL, 10, rfl⟩), (fun q => by cases q), (fun q => by cases q)⟩
theorem cw_SL_range_94 : zCw m_SL_range m_SL_tokenizeFrom 94 0 0 2 := ⟨Or.inl wm_SL_94, wc_SL_tokenizeFrom, wn_SL, ⟨by decide, by decide, by decide +kernel⟩, ⟨by decide, by decide⟩, (fun _ => ⟨wj_SL_tokenizeFrom, ws_SL_tokenizeFrom, by decide, T_SL, 10, rfl⟩), (fun q => by cases q), (fun q => by cases q)⟩
theorem cw_SL_include_66 : zCw m_SL_include m_Gr_isRange 66 0 8 1 := ⟨Or.inl wm_SL_66, wc_Gr_isRange, wn_Gr, ⟨by decide, by decide, by decide +kernel⟩, ⟨by decide, by decide⟩, (fun _ => ⟨wj_Gr_isRange, ws_Gr_isRange, by decide, T_Gr, 10, rfl⟩), (fun q => by cases q), (fun q => by cases q)⟩
theorem wf_SL_105 : Cond.fieldLink "ScopeLines" 105 "ScopeLines$Grammar" "rules" "[LScopeLines$Rule;" ∈ zGW := z_in2 (List.mem_of_getElem? (i := 16) rfl) rfl
theorem fd_SL_105 : zFd "ScopeLines" 105 8 0 (.array (.object "ScopeLines$Rule")) true := ⟨R_Gr, T_Gr, 10, ck_Gr, by decide, by decide +kernel, rfl, rfl, Or.inl wf_SL_105⟩
theorem wf_SL_109 : Cond.fieldLink "ScopeLines" 109 "ScopeLines$Rule" "included" "I" ∈ zGW := z_in2 (List.mem_of_getElem? (i := 0) rfl) rfl
theorem fd_SL_109 : zFd "ScopeLines" 109 7 5 (.int) false := ⟨R_Ru, T_Ru, 6, ck_Ru, by decide, by decide +kernel, rfl, rfl, Or.inl wf_SL_109⟩
theorem cw_SL_include_94 : zCw m_SL_include m_SL_tokenizeFrom 94 0 0 2 := ⟨Or.inl wm_SL_94, wc_SL_tokenizeFrom, wn_SL, ⟨by decide, by decide, by decide +kernel⟩, ⟨by decide, by decide⟩, (fun _ => ⟨wj_SL_tokenizeFrom, ws_SL_tokenizeFrom, by decide, T_SL, 10, rfl⟩), (fun q => by cases q), (fun q => by cases q)⟩
theorem wf_Pa_21 : Cond.fieldLink "ScopeLines$Palette" 21 "ScopeLines$Palette" "count" "I" ∈ zGW := z_in1 (List.mem_of_getElem? (i := 88) rfl) rfl
theorem fd_Pa_21 : zFd "ScopeLines$Palette" 21 3 3 (.int) false := ⟨R_Pa, T_Pa, 4, ck_Pa, by decide, by decide +kernel, rfl, rfl, Or.inl wf_Pa_21⟩
theorem cw_SL_theme_70 : zCw m_SL_theme m_SL_isScope 70 1 0 1 := ⟨Or.inl wm_SL_70, wc_SL_isScope, wn_SL, ⟨by decide, by decide, by decide +kernel⟩, ⟨by decide, by decide⟩, (fun q => by cases q), (fun _ => wt_SL_isScope), (fun q => by cases q)⟩
theorem wf_SL_112 : Cond.fieldLink "ScopeLines" 112 "ScopeLines$Palette" "count" "I" ∈ zGW := z_in1 (List.mem_of_getElem? (i := 89) rfl) rfl
theorem fd_SL_112 : zFd "ScopeLines" 112 3 3 (.int) false := ⟨R_Pa, T_Pa, 4, ck_Pa, by decide, by decide +kernel, rfl, rfl, Or.inl wf_SL_112⟩
theorem wm_SL_115 : Cond.methodLink "ScopeLines" 115 ⟨"ScopeLines$Palette", "add", "(III)V"⟩ ∈ zGW := z_in3 (List.mem_of_getElem? (i := 140) rfl) rfl
theorem wj_Pa_add : Cond.instanceMethod ⟨"ScopeLines$Palette", "add", "(III)V"⟩ ∈ zGW := z_in3 (List.mem_of_getElem? (i := 141) rfl) rfl
theorem ws_Pa_add : Cond.selects m_Pa_add.1.cls m_Pa_add.1 m_Pa_add.1 ∈ zGW := z_in3 (List.mem_of_getElem? (i := 142) rfl) rfl
theorem cw_SL_theme_115 : zCw m_SL_theme m_Pa_add 115 0 3 3 := ⟨Or.inl wm_SL_115, wc_Pa_add, wn_Pa, ⟨by decide, by decide, by decide +kernel⟩, ⟨by decide, by decide⟩, (fun _ => ⟨wj_Pa_add, ws_Pa_add, by decide, T_Pa, 4, rfl⟩), (fun q => by cases q), (fun q => by cases q)⟩
theorem w_Li_32 : Cond.methodLink "ScopeLines$Line" 32 ⟨"java/lang/System", "arraycopy", "(Ljava/lang/Object;ILjava/lang/Object;II)V"⟩ ∈ zGW := z_in3 (List.mem_of_getElem? (i := 152) rfl) rfl
theorem wf_Li_38 : Cond.fieldLink "ScopeLines$Line" 38 "ScopeLines$Line" "size" "I" ∈ zGW := z_in2 (List.mem_of_getElem? (i := 59) rfl) rfl
theorem fd_Li_38 : zFd "ScopeLines$Line" 38 2 1 (.int) false := ⟨R_Li, T_Li, 8, ck_Li, by decide, by decide +kernel, rfl, rfl, Or.inl wf_Li_38⟩
theorem wm_SL_122 : Cond.methodLink "ScopeLines" 122 ⟨"ScopeLines$Line", "write", "([CI)V"⟩ ∈ zGW := z_in3 (List.mem_of_getElem? (i := 148) rfl) rfl
theorem wj_Li_write : Cond.instanceMethod ⟨"ScopeLines$Line", "write", "([CI)V"⟩ ∈ zGW := z_in3 (List.mem_of_getElem? (i := 149) rfl) rfl
theorem ws_Li_write : Cond.selects m_Li_write.1.cls m_Li_write.1 m_Li_write.1 ∈ zGW := z_in3 (List.mem_of_getElem? (i := 150) rfl) rfl
theorem cw_SL_put_122 : zCw m_SL_put m_Li_write 122 0 2 2 := ⟨Or.inl wm_SL_122, wc_Li_write, wn_Li, ⟨by decide, by decide, by decide +kernel⟩, ⟨by decide, by decide⟩, (fun _ => ⟨wj_Li_write, ws_Li_write, by decide, T_Li, 8, rfl⟩), (fun q => by cases q), (fun q => by cases q)⟩
theorem cw_SL_put_94 : zCw m_SL_put m_SL_tokenizeFrom 94 0 0 2 := ⟨Or.inl wm_SL_94, wc_SL_tokenizeFrom, wn_SL, ⟨by decide, by decide, by decide +kernel⟩, ⟨by decide, by decide⟩, (fun _ => ⟨wj_SL_tokenizeFrom, ws_SL_tokenizeFrom, by decide, T_SL, 10, rfl⟩), (fun q => by cases q), (fun q => by cases q)⟩
theorem wm_SL_126 : Cond.methodLink "ScopeLines" 126 ⟨"ScopeLines", "isLine", "(I)Z"⟩ ∈ zGW := z_in3 (List.mem_of_getElem? (i := 157) rfl) rfl
theorem wj_SL_isLine : Cond.instanceMethod ⟨"ScopeLines", "isLine", "(I)Z"⟩ ∈ zGW := z_in3 (List.mem_of_getElem? (i := 159) rfl) rfl
theorem ws_SL_isLine : Cond.selects m_SL_isLine.1.cls m_SL_isLine.1 m_SL_isLine.1 ∈ zGW := z_inp (q := (⟨"ScopeLines", "isLine", "(I)Z"⟩, 10)) (List.mem_of_getElem? (i := 31) rfl)
theorem cw_SL_drop_126 : zCw m_SL_drop m_SL_isLine 126 0 0 1 := ⟨Or.inl wm_SL_126, wc_SL_isLine, wn_SL, ⟨by decide, by decide, by decide +kernel⟩, ⟨by decide, by decide⟩, (fun _ => ⟨wj_SL_isLine, ws_SL_isLine, by decide, T_SL, 10, rfl⟩), (fun q => by cases q), (fun q => by cases q)⟩
theorem cw_SL_drop_94 : zCw m_SL_drop m_SL_tokenizeFrom 94 0 0 2 := ⟨Or.inl wm_SL_94, wc_SL_tokenizeFrom, wn_SL, ⟨by decide, by decide, by decide +kernel⟩, ⟨by decide, by decide⟩, (fun _ => ⟨wj_SL_tokenizeFrom, ws_SL_tokenizeFrom, by decide, T_SL, 10, rfl⟩), (fun q => by cases q), (fun q => by cases q)⟩
theorem cw_SL_length_126 : zCw m_SL_length m_SL_isLine 126 0 0 1 := ⟨Or.inl wm_SL_126, wc_SL_isLine, wn_SL, ⟨by decide, by decide, by decide +kernel⟩, ⟨by decide, by decide⟩, (fun _ => ⟨wj_SL_isLine, ws_SL_isLine, by decide, T_SL, 10, rfl⟩), (fun q => by cases q), (fun q => by cases q)⟩
theorem wf_SL_132 : Cond.fieldLink "ScopeLines" 132 "ScopeLines$Line" "size" "I" ∈ zGW := z_in2 (List.mem_of_getElem? (i := 62) rfl) rfl
theorem fd_SL_132 : zFd "ScopeLines" 132 2 1 (.int) false := ⟨R_Li, T_Li, 8, ck_Li, by decide, by decide +kernel, rfl, rfl, Or.inl wf_SL_132⟩
theorem cw_SL_tokens_126 : zCw m_SL_tokens m_SL_isLine 126 0 0 1 := ⟨Or.inl wm_SL_126, wc_SL_isLine, wn_SL, ⟨by decide, by decide, by decide +kernel⟩, ⟨by decide, by decide⟩, (fun _ => ⟨wj_SL_isLine, ws_SL_isLine, by decide, T_SL, 10, rfl⟩), (fun q => by cases q), (fun q => by cases q)⟩
theorem wf_SL_135 : Cond.fieldLink "ScopeLines" 135 "ScopeLines$Line" "tokenCount" "I" ∈ zGW := z_in2 (List.mem_of_getElem? (i := 71) rfl) rfl
theorem fd_SL_135 : zFd "ScopeLines" 135 2 5 (.int) false := ⟨R_Li, T_Li, 8, ck_Li, by decide, by decide +kernel, rfl, rfl, Or.inl wf_SL_135⟩
theorem wm_Li_45 : Cond.methodLink "ScopeLines$Line" 45 ⟨"ScopeLines$Line", "scopeOf", "(II)I"⟩ ∈ zGW := z_in3 (List.mem_of_getElem? (i := 185) rfl) rfl
theorem wj_Li_scopeOf : Cond.instanceMethod ⟨"ScopeLines$Line", "scopeOf", "(II)I"⟩ ∈ zGW := z_in3 (List.mem_of_getElem? (i := 186) rfl) rfl
theorem ws_Li_scopeOf : Cond.selects m_Li_scopeOf.1.cls m_Li_scopeOf.1 m_Li_scopeOf.1 ∈ zGW := z_in3 (List.mem_of_getElem? (i := 187) rfl) rfl
theorem cw_Li_lastScope_45 : zCw m_Li_lastScope m_Li_scopeOf 45 0 2 2 := ⟨Or.inl wm_Li_45, wc_Li_scopeOf, wn_Li, ⟨by decide, by decide, by decide +kernel⟩, ⟨by decide, by decide⟩, (fun _ => ⟨wj_Li_scopeOf, ws_Li_scopeOf, by decide, T_Li, 8, rfl⟩), (fun q => by cases q), (fun q => by cases q)⟩
theorem wm_Pa_34 : Cond.methodLink "ScopeLines$Palette" 34 ⟨"ScopeLines$Line", "scopeOf", "(II)I"⟩ ∈ zGW := z_in3 (List.mem_of_getElem? (i := 197) rfl) rfl
theorem cw_Pa_isUnder_34 : zCw m_Pa_isUnder m_Li_scopeOf 34 0 2 2 := ⟨Or.inl wm_Pa_34, wc_Li_scopeOf, wn_Li, ⟨by decide, by decide, by decide +kernel⟩, ⟨by decide, by decide⟩, (fun _ => ⟨wj_Li_scopeOf, ws_Li_scopeOf, by decide, T_Li, 8, rfl⟩), (fun q => by cases q), (fun q => by cases q)⟩
theorem cw_Pa_entryFor_34 : zCw m_Pa_entryFor m_Li_scopeOf 34 0 2 2 := ⟨Or.inl wm_Pa_34, wc_Li_scopeOf, wn_Li, ⟨by decide, by decide, by decide +kernel⟩, ⟨by decide, by decide⟩, (fun _ => ⟨wj_Li_scopeOf, ws_Li_scopeOf, by decide, T_Li, 8, rfl⟩), (fun q => by cases q), (fun q => by cases q)⟩
theorem wm_Pa_38 : Cond.methodLink "ScopeLines$Palette" 38 ⟨"ScopeLines$Palette", "isUnder", "(LScopeLines$Line;III)Z"⟩ ∈ zGW := z_in3 (List.mem_of_getElem? (i := 198) rfl) rfl
theorem wt_Pa_isUnder : Cond.static ⟨"ScopeLines$Palette", "isUnder", "(LScopeLines$Line;III)Z"⟩ ∈ zGW := z_in3 (List.mem_of_getElem? (i := 199) rfl) rfl
theorem cw_Pa_entryFor_38 : zCw m_Pa_entryFor m_Pa_isUnder 38 1 0 4 := ⟨Or.inl wm_Pa_38, wc_Pa_isUnder, wn_Pa, ⟨by decide, by decide, by decide +kernel⟩, ⟨by decide, by decide⟩, (fun q => by cases q), (fun _ => wt_Pa_isUnder), (fun q => by cases q)⟩
theorem wf_Pa_25 : Cond.fieldLink "ScopeLines$Palette" 25 "ScopeLines$Line" "scopeCounts" "[I" ∈ zGW := z_in2 (List.mem_of_getElem? (i := 66) rfl) rfl
theorem fd_Pa_25 : zFd "ScopeLines$Palette" 25 2 3 (.array .int) true := ⟨R_Li, T_Li, 8, ck_Li, by decide, by decide +kernel, rfl, rfl, Or.inl wf_Pa_25⟩
theorem wm_Pa_30 : Cond.methodLink "ScopeLines$Palette" 30 ⟨"ScopeLines$Palette", "entryFor", "(LScopeLines$Line;II)I"⟩ ∈ zGW := z_in3 (List.mem_of_getElem? (i := 193) rfl) rfl
theorem wj_Pa_entryFor : Cond.instanceMethod ⟨"ScopeLines$Palette", "entryFor", "(LScopeLines$Line;II)I"⟩ ∈ zGW := z_in3 (List.mem_of_getElem? (i := 195) rfl) rfl
theorem ws_Pa_entryFor : Cond.selects m_Pa_entryFor.1.cls m_Pa_entryFor.1 m_Pa_entryFor.1 ∈ zGW := z_inp (q := (⟨"ScopeLines$Palette", "entryFor", "(LScopeLines$Line;II)I"⟩, 4)) (List.mem_of_getElem? (i := 32) rfl)
theorem cw_Pa_colourOf_30 : zCw m_Pa_colourOf m_Pa_entryFor 30 0 3 3 := ⟨Or.inl wm_Pa_30, wc_Pa_entryFor, wn_Pa, ⟨by decide, by decide, by decide +kernel⟩, ⟨by decide, by decide⟩, (fun _ => ⟨wj_Pa_entryFor, ws_Pa_entryFor, by decide, T_Pa, 4, rfl⟩), (fun q => by cases q), (fun q => by cases q)⟩
theorem cw_SL_token_126 : zCw m_SL_token m_SL_isLine 126 0 0 1 := ⟨Or.inl wm_SL_126, wc_SL_isLine, wn_SL, ⟨by decide, by decide, by decide +kernel⟩, ⟨by decide, by decide⟩, (fun _ => ⟨wj_SL_isLine, ws_SL_isLine, by decide, T_SL, 10, rfl⟩), (fun q => by cases q), (fun q => by cases q)⟩
theorem wf_SL_138 : Cond.fieldLink "ScopeLines" 138 "ScopeLines$Line" "begins" "[I" ∈ zGW := z_in2 (List.mem_of_getElem? (i := 64) rfl) rfl
theorem fd_SL_138 : zFd "ScopeLines" 138 2 2 (.array .int) true := ⟨R_Li, T_Li, 8, ck_Li, by decide, by decide +kernel, rfl, rfl, Or.inl wf_SL_138⟩
theorem wf_SL_142 : Cond.fieldLink "ScopeLines" 142 "ScopeLines$Line" "scopeCounts" "[I" ∈ zGW := z_in2 (List.mem_of_getElem? (i := 67) rfl) rfl
theorem fd_SL_142 : zFd "ScopeLines" 142 2 3 (.array .int) true := ⟨R_Li, T_Li, 8, ck_Li, by decide, by decide +kernel, rfl, rfl, Or.inl wf_SL_142⟩
theorem wm_SL_145 : Cond.methodLink "ScopeLines" 145 ⟨"ScopeLines$Line", "lastScope", "(I)I"⟩ ∈ zGW := z_in3 (List.mem_of_getElem? (i := 181) rfl) rfl
theorem wj_Li_lastScope : Cond.instanceMethod ⟨"ScopeLines$Line", "lastScope", "(I)I"⟩ ∈ zGW := z_in3 (List.mem_of_getElem? (i := 182) rfl) rfl
theorem ws_Li_lastScope : Cond.selects m_Li_lastScope.1.cls m_Li_lastScope.1 m_Li_lastScope.1 ∈ zGW := z_in3 (List.mem_of_getElem? (i := 183) rfl) rfl
theorem cw_SL_token_145 : zCw m_SL_token m_Li_lastScope 145 0 2 1 := ⟨Or.inl wm_SL_145, wc_Li_lastScope, wn_Li, ⟨by decide, by decide, by decide +kernel⟩, ⟨by decide, by decide⟩, (fun _ => ⟨wj_Li_lastScope, ws_Li_lastScope, by decide, T_Li, 8, rfl⟩), (fun q => by cases q), (fun q => by cases q)⟩
theorem wm_SL_149 : Cond.methodLink "ScopeLines" 149 ⟨"ScopeLines$Palette", "colourOf", "(LScopeLines$Line;I)I"⟩ ∈ zGW := z_in3 (List.mem_of_getElem? (i := 189) rfl) rfl
theorem wj_Pa_colourOf : Cond.instanceMethod ⟨"ScopeLines$Palette", "colourOf", "(LScopeLines$Line;I)I"⟩ ∈ zGW := z_in3 (List.mem_of_getElem? (i := 190) rfl) rfl
theorem ws_Pa_colourOf : Cond.selects m_Pa_colourOf.1.cls m_Pa_colourOf.1 m_Pa_colourOf.1 ∈ zGW := z_in3 (List.mem_of_getElem? (i := 191) rfl) rfl
theorem cw_SL_token_149 : zCw m_SL_token m_Pa_colourOf 149 0 3 2 := ⟨Or.inl wm_SL_149, wc_Pa_colourOf, wn_Pa, ⟨by decide, by decide, by decide +kernel⟩, ⟨by decide, by decide⟩, (fun _ => ⟨wj_Pa_colourOf, ws_Pa_colourOf, by decide, T_Pa, 4, rfl⟩), (fun q => by cases q), (fun q => by cases q)⟩
theorem cw_SL_marked_126 : zCw m_SL_marked m_SL_isLine 126 0 0 1 := ⟨Or.inl wm_SL_126, wc_SL_isLine, wn_SL, ⟨by decide, by decide, by decide +kernel⟩, ⟨by decide, by decide⟩, (fun _ => ⟨wj_SL_isLine, ws_SL_isLine, by decide, T_SL, 10, rfl⟩), (fun q => by cases q), (fun q => by cases q)⟩
theorem wf_SL_153 : Cond.fieldLink "ScopeLines" 153 "ScopeLines$Line" "isMarked" "Z" ∈ zGW := z_in2 (List.mem_of_getElem? (i := 73) rfl) rfl
theorem fd_SL_153 : zFd "ScopeLines" 153 2 6 (.boolean) false := ⟨R_Li, T_Li, 8, ck_Li, by decide, by decide +kernel, rfl, rfl, Or.inl wf_SL_153⟩
theorem cw_SL_state_126 : zCw m_SL_state m_SL_isLine 126 0 0 1 := ⟨Or.inl wm_SL_126, wc_SL_isLine, wn_SL, ⟨by decide, by decide, by decide +kernel⟩, ⟨by decide, by decide⟩, (fun _ => ⟨wj_SL_isLine, ws_SL_isLine, by decide, T_SL, 10, rfl⟩), (fun q => by cases q), (fun q => by cases q)⟩
theorem wf_SL_159 : Cond.fieldLink "ScopeLines" 159 "ScopeLines$State" "open" "I" ∈ zGW := z_in1 (List.mem_of_getElem? (i := 108) rfl) rfl
theorem fd_SL_159 : zFd "ScopeLines" 159 1 0 (.int) false := ⟨R_St, T_St, 4, ck_St, by decide, by decide +kernel, rfl, rfl, Or.inl wf_SL_159⟩
theorem wm_SL_162 : Cond.methodLink "ScopeLines" 162 ⟨"ScopeLines$State", "isOpen", "(I)Z"⟩ ∈ zGW := z_in3 (List.mem_of_getElem? (i := 209) rfl) rfl
theorem wj_St_isOpen : Cond.instanceMethod ⟨"ScopeLines$State", "isOpen", "(I)Z"⟩ ∈ zGW := z_in3 (List.mem_of_getElem? (i := 210) rfl) rfl
theorem ws_St_isOpen : Cond.selects m_St_isOpen.1.cls m_St_isOpen.1 m_St_isOpen.1 ∈ zGW := z_in3 (List.mem_of_getElem? (i := 211) rfl) rfl
theorem cw_SL_state_162 : zCw m_SL_state m_St_isOpen 162 0 1 1 := ⟨Or.inl wm_SL_162, wc_St_isOpen, wn_St, ⟨by decide, by decide, by decide +kernel⟩, ⟨by decide, by decide⟩, (fun _ => ⟨wj_St_isOpen, ws_St_isOpen, by decide, T_St, 4, rfl⟩), (fun q => by cases q), (fun q => by cases q)⟩
theorem wf_SL_165 : Cond.fieldLink "ScopeLines" 165 "ScopeLines$State" "ranges" "[I" ∈ zGW := z_in1 (List.mem_of_getElem? (i := 111) rfl) rfl
theorem fd_SL_165 : zFd "ScopeLines" 165 1 1 (.array .int) true := ⟨R_St, T_St, 4, ck_St, by decide, by decide +kernel, rfl, rfl, Or.inl wf_SL_165⟩
theorem cw_SL_text_126 : zCw m_SL_text m_SL_isLine 126 0 0 1 := ⟨Or.inl wm_SL_126, wc_SL_isLine, wn_SL, ⟨by decide, by decide, by decide +kernel⟩, ⟨by decide, by decide⟩, (fun _ => ⟨wj_SL_isLine, ws_SL_isLine, by decide, T_SL, 10, rfl⟩), (fun q => by cases q), (fun q => by cases q)⟩
theorem cw_SL_text_162 : zCw m_SL_text m_St_isOpen 162 0 1 1 := ⟨Or.inl wm_SL_162, wc_St_isOpen, wn_St, ⟨by decide, by decide, by decide +kernel⟩, ⟨by decide, by decide⟩, (fun _ => ⟨wj_St_isOpen, ws_St_isOpen, by decide, T_St, 4, rfl⟩), (fun q => by cases q), (fun q => by cases q)⟩
theorem wm_SL_168 : Cond.methodLink "ScopeLines" 168 ⟨"ScopeLines$State", "textLength", "(II)I"⟩ ∈ zGW := z_in3 (List.mem_of_getElem? (i := 217) rfl) rfl
theorem cw_SL_text_168 : zCw m_SL_text m_St_textLength 168 0 1 2 := ⟨Or.inl wm_SL_168, wc_St_textLength, wn_St, ⟨by decide, by decide, by decide +kernel⟩, ⟨by decide, by decide⟩, (fun _ => ⟨wj_St_textLength, ws_St_textLength, by decide, T_St, 4, rfl⟩), (fun q => by cases q), (fun q => by cases q)⟩
theorem cw_SL_find_126 : zCw m_SL_find m_SL_isLine 126 0 0 1 := ⟨Or.inl wm_SL_126, wc_SL_isLine, wn_SL, ⟨by decide, by decide, by decide +kernel⟩, ⟨by decide, by decide⟩, (fun _ => ⟨wj_SL_isLine, ws_SL_isLine, by decide, T_SL, 10, rfl⟩), (fun q => by cases q), (fun q => by cases q)⟩
theorem wf_SL_171 : Cond.fieldLink "ScopeLines" 171 "ScopeLines$Grammar" "search" "LScopeLines$Search;" ∈ zGW := z_in2 (List.mem_of_getElem? (i := 20) rfl) rfl
theorem fd_SL_171 : zFd "ScopeLines" 171 8 2 (.object "ScopeLines$Search") true := ⟨R_Gr, T_Gr, 10, ck_Gr, by decide, by decide +kernel, rfl, rfl, Or.inl wf_SL_171⟩
theorem wm_SL_175 : Cond.methodLink "ScopeLines" 175 ⟨"ScopeLines$Search", "run", "(LScopeLines$Pattern;LScopeLines$Line;ILScopeLines$State;)V"⟩ ∈ zGW := z_in3 (List.mem_of_getElem? (i := 222) rfl) rfl
theorem cw_SL_find_175 : zCw m_SL_find m_Se_run 175 0 6 4 := ⟨Or.inl wm_SL_175, wc_Se_run, wn_Se, ⟨by decide, by decide, by decide +kernel⟩, ⟨by decide, by decide⟩, (fun _ => ⟨wj_Se_run, ws_Se_run, by decide, T_Se, 12, rfl⟩), (fun q => by cases q), (fun q => by cases q)⟩
theorem wf_SL_181 : Cond.fieldLink "ScopeLines" 181 "ScopeLines$Search" "steps" "I" ∈ zGW := z_in1 (List.mem_of_getElem? (i := 156) rfl) rfl
theorem fd_SL_181 : zFd "ScopeLines" 181 6 4 (.int) false := ⟨R_Se, T_Se, 12, ck_Se, by decide, by decide +kernel, rfl, rfl, Or.inl wf_SL_181⟩
theorem wf_SL_184 : Cond.fieldLink "ScopeLines" 184 "ScopeLines$Search" "isOver" "Z" ∈ zGW := z_in1 (List.mem_of_getElem? (i := 159) rfl) rfl
theorem fd_SL_184 : zFd "ScopeLines" 184 6 5 (.boolean) false := ⟨R_Se, T_Se, 12, ck_Se, by decide, by decide +kernel, rfl, rfl, Or.inl wf_SL_184⟩
theorem wf_SL_187 : Cond.fieldLink "ScopeLines" 187 "ScopeLines$Search" "begin" "I" ∈ zGW := z_in1 (List.mem_of_getElem? (i := 151) rfl) rfl
theorem fd_SL_187 : zFd "ScopeLines" 187 6 2 (.int) false := ⟨R_Se, T_Se, 12, ck_Se, by decide, by decide +kernel, rfl, rfl, Or.inl wf_SL_187⟩
theorem wf_SL_190 : Cond.fieldLink "ScopeLines" 190 "ScopeLines$Search" "end" "I" ∈ zGW := z_in1 (List.mem_of_getElem? (i := 154) rfl) rfl
theorem fd_SL_190 : zFd "ScopeLines" 190 6 3 (.int) false := ⟨R_Se, T_Se, 12, ck_Se, by decide, by decide +kernel, rfl, rfl, Or.inl wf_SL_190⟩
theorem wf_SL_192 : Cond.fieldLink "ScopeLines" 192 "ScopeLines$Search" "groups" "[I" ∈ zGW := z_in1 (List.mem_of_getElem? (i := 148) rfl) rfl
theorem fd_SL_192 : zFd "ScopeLines" 192 6 1 (.array .int) true := ⟨R_Se, T_Se, 12, ck_Se, by decide, by decide +kernel, rfl, rfl, Or.inl wf_SL_192⟩
theorem w_Mo_1 : Cond.methodLink "ScopeLinesModel" 1 ⟨"java/lang/Object", "<init>", "()V"⟩ ∈ zGW := z_in3 (List.mem_of_getElem? (i := 231) rfl) rfl
theorem wf_Mo_7 : Cond.fieldLink "ScopeLinesModel" 7 "ScopeLinesModel" "draft" "[I" ∈ zGW := z_in3 (List.mem_of_getElem? (i := 234) rfl) rfl
theorem fd_Mo_7 : zFd "ScopeLinesModel" 7 9 2 (.array .int) false := ⟨R_Mo, T_Mo, 52, ck_Mo, by decide, by decide +kernel, rfl, rfl, Or.inl wf_Mo_7⟩
theorem wf_Mo_13 : Cond.fieldLink "ScopeLinesModel" 13 "ScopeLinesModel" "isRange" "[Z" ∈ zGW := z_in3 (List.mem_of_getElem? (i := 236) rfl) rfl
theorem fd_Mo_13 : zFd "ScopeLinesModel" 13 9 4 (.array .boolean) false := ⟨R_Mo, T_Mo, 52, ck_Mo, by decide, by decide +kernel, rfl, rfl, Or.inl wf_Mo_13⟩
theorem wf_Mo_17 : Cond.fieldLink "ScopeLinesModel" 17 "ScopeLinesModel" "home" "[I" ∈ zGW := z_in3 (List.mem_of_getElem? (i := 237) rfl) rfl
theorem fd_Mo_17 : zFd "ScopeLinesModel" 17 9 5 (.array .int) false := ⟨R_Mo, T_Mo, 52, ck_Mo, by decide, by decide +kernel, rfl, rfl, Or.inl wf_Mo_17⟩
theorem wf_Mo_20 : Cond.fieldLink "ScopeLinesModel" 20 "ScopeLinesModel" "scope" "[I" ∈ zGW := z_in3 (List.mem_of_getElem? (i := 238) rfl) rfl
theorem fd_Mo_20 : zFd "ScopeLinesModel" 20 9 6 (.array .int) false := ⟨R_Mo, T_Mo, 52, ck_Mo, by decide, by decide +kernel, rfl, rfl, Or.inl wf_Mo_20⟩
theorem wf_Mo_23 : Cond.fieldLink "ScopeLinesModel" 23 "ScopeLinesModel" "includes" "[I" ∈ zGW := z_in3 (List.mem_of_getElem? (i := 239) rfl) rfl
theorem fd_Mo_23 : zFd "ScopeLinesModel" 23 9 7 (.array .int) false := ⟨R_Mo, T_Mo, 52, ck_Mo, by decide, by decide +kernel, rfl, rfl, Or.inl wf_Mo_23⟩
theorem wf_Mo_26 : Cond.fieldLink "ScopeLinesModel" 26 "ScopeLinesModel" "patLength" "[I" ∈ zGW := z_in4 (List.mem_of_getElem? (i := 0) rfl) rfl
theorem fd_Mo_26 : zFd "ScopeLinesModel" 26 9 8 (.array .int) false := ⟨R_Mo, T_Mo, 52, ck_Mo, by decide, by decide +kernel, rfl, rfl, Or.inl wf_Mo_26⟩
theorem wf_Mo_29 : Cond.fieldLink "ScopeLinesModel" 29 "ScopeLinesModel" "pat" "[I" ∈ zGW := z_in4 (List.mem_of_getElem? (i := 1) rfl) rfl
theorem fd_Mo_29 : zFd "ScopeLinesModel" 29 9 9 (.array .int) false := ⟨R_Mo, T_Mo, 52, ck_Mo, by decide, by decide +kernel, rfl, rfl, Or.inl wf_Mo_29⟩
theorem wf_Mo_32 : Cond.fieldLink "ScopeLinesModel" 32 "ScopeLinesModel" "quant" "[I" ∈ zGW := z_in4 (List.mem_of_getElem? (i := 2) rfl) rfl
theorem fd_Mo_32 : zFd "ScopeLinesModel" 32 9 10 (.array .int) false := ⟨R_Mo, T_Mo, 52, ck_Mo, by decide, by decide +kernel, rfl, rfl, Or.inl wf_Mo_32⟩
theorem wf_Mo_35 : Cond.fieldLink "ScopeLinesModel" 35 "ScopeLinesModel" "atomEnd" "[I" ∈ zGW := z_in4 (List.mem_of_getElem? (i := 3) rfl) rfl
theorem fd_Mo_35 : zFd "ScopeLinesModel" 35 9 11 (.array .int) false := ⟨R_Mo, T_Mo, 52, ck_Mo, by decide, by decide +kernel, rfl, rfl, Or.inl wf_Mo_35⟩
theorem wf_Mo_38 : Cond.fieldLink "ScopeLinesModel" 38 "ScopeLinesModel" "pieceEnd" "[I" ∈ zGW := z_in4 (List.mem_of_getElem? (i := 4) rfl) rfl
theorem fd_Mo_38 : zFd "ScopeLinesModel" 38 9 12 (.array .int) false := ⟨R_Mo, T_Mo, 52, ck_Mo, by decide, by decide +kernel, rfl, rfl, Or.inl wf_Mo_38⟩
theorem wf_Mo_41 : Cond.fieldLink "ScopeLinesModel" 41 "ScopeLinesModel" "groupOf" "[I" ∈ zGW := z_in4 (List.mem_of_getElem? (i := 5) rfl) rfl
theorem fd_Mo_41 : zFd "ScopeLinesModel" 41 9 13 (.array .int) false := ⟨R_Mo, T_Mo, 52, ck_Mo, by decide, by decide +kernel, rfl, rfl, Or.inl wf_Mo_41⟩
theorem wf_Mo_44 : Cond.fieldLink "ScopeLinesModel" 44 "ScopeLinesModel" "owner" "[I" ∈ zGW := z_in4 (List.mem_of_getElem? (i := 6) rfl) rfl
theorem fd_Mo_44 : zFd "ScopeLinesModel" 44 9 14 (.array .int) false := ⟨R_Mo, T_Mo, 52, ck_Mo, by decide, by decide +kernel, rfl, rfl, Or.inl wf_Mo_44⟩
theorem wf_Mo_47 : Cond.fieldLink "ScopeLinesModel" 47 "ScopeLinesModel" "bar" "[I" ∈ zGW := z_in4 (List.mem_of_getElem? (i := 7) rfl) rfl
theorem fd_Mo_47 : zFd "ScopeLinesModel" 47 9 15 (.array .int) false := ⟨R_Mo, T_Mo, 52, ck_Mo, by decide, by decide +kernel, rfl, rfl, Or.inl wf_Mo_47⟩
theorem wf_Mo_50 : Cond.fieldLink "ScopeLinesModel" 50 "ScopeLinesModel" "firstBar" "[I" ∈ zGW := z_in4 (List.mem_of_getElem? (i := 8) rfl) rfl
theorem fd_Mo_50 : zFd "ScopeLinesModel" 50 9 16 (.array .int) false := ⟨R_Mo, T_Mo, 52, ck_Mo, by decide, by decide +kernel, rfl, rfl, Or.inl wf_Mo_50⟩
theorem wf_Mo_53 : Cond.fieldLink "ScopeLinesModel" 53 "ScopeLinesModel" "opened" "[I" ∈ zGW := z_in4 (List.mem_of_getElem? (i := 9) rfl) rfl
theorem fd_Mo_53 : zFd "ScopeLinesModel" 53 9 17 (.array .int) false := ⟨R_Mo, T_Mo, 52, ck_Mo, by decide, by decide +kernel, rfl, rfl, Or.inl wf_Mo_53⟩
theorem wf_Mo_56 : Cond.fieldLink "ScopeLinesModel" 56 "ScopeLinesModel" "lastBar" "[I" ∈ zGW := z_in4 (List.mem_of_getElem? (i := 10) rfl) rfl
theorem fd_Mo_56 : zFd "ScopeLinesModel" 56 9 18 (.array .int) false := ⟨R_Mo, T_Mo, 52, ck_Mo, by decide, by decide +kernel, rfl, rfl, Or.inl wf_Mo_56⟩
theorem wf_Mo_59 : Cond.fieldLink "ScopeLinesModel" 59 "ScopeLinesModel" "some" "[Z" ∈ zGW := z_in4 (List.mem_of_getElem? (i := 11) rfl) rfl
theorem fd_Mo_59 : zFd "ScopeLinesModel" 59 9 19 (.array .boolean) false := ⟨R_Mo, T_Mo, 52, ck_Mo, by decide, by decide +kernel, rfl, rfl, Or.inl wf_Mo_59⟩
theorem wf_Mo_62 : Cond.fieldLink "ScopeLinesModel" 62 "ScopeLinesModel" "present" "[Z" ∈ zGW := z_in4 (List.mem_of_getElem? (i := 12) rfl) rfl
theorem fd_Mo_62 : zFd "ScopeLinesModel" 62 9 20 (.array .boolean) false := ⟨R_Mo, T_Mo, 52, ck_Mo, by decide, by decide +kernel, rfl, rfl, Or.inl wf_Mo_62⟩
theorem wf_Mo_65 : Cond.fieldLink "ScopeLinesModel" 65 "ScopeLinesModel" "group" "[I" ∈ zGW := z_in4 (List.mem_of_getElem? (i := 17) rfl) rfl
theorem fd_Mo_65 : zFd "ScopeLinesModel" 65 9 25 (.array .int) false := ⟨R_Mo, T_Mo, 52, ck_Mo, by decide, by decide +kernel, rfl, rfl, Or.inl wf_Mo_65⟩
theorem wf_Mo_68 : Cond.fieldLink "ScopeLinesModel" 68 "ScopeLinesModel" "choice" "[I" ∈ zGW := z_in4 (List.mem_of_getElem? (i := 19) rfl) rfl
theorem fd_Mo_68 : zFd "ScopeLinesModel" 68 9 27 (.array .int) false := ⟨R_Mo, T_Mo, 52, ck_Mo, by decide, by decide +kernel, rfl, rfl, Or.inl wf_Mo_68⟩
theorem wf_Mo_71 : Cond.fieldLink "ScopeLinesModel" 71 "ScopeLinesModel" "refLength" "[I" ∈ zGW := z_in4 (List.mem_of_getElem? (i := 20) rfl) rfl
theorem fd_Mo_71 : zFd "ScopeLinesModel" 71 9 28 (.array .int) false := ⟨R_Mo, T_Mo, 52, ck_Mo, by decide, by decide +kernel, rfl, rfl, Or.inl wf_Mo_71⟩
theorem wf_Mo_74 : Cond.fieldLink "ScopeLinesModel" 74 "ScopeLinesModel" "ref" "[I" ∈ zGW := z_in4 (List.mem_of_getElem? (i := 21) rfl) rfl
theorem fd_Mo_74 : zFd "ScopeLinesModel" 74 9 29 (.array .int) false := ⟨R_Mo, T_Mo, 52, ck_Mo, by decide, by decide +kernel, rfl, rfl, Or.inl wf_Mo_74⟩
theorem wf_Mo_77 : Cond.fieldLink "ScopeLinesModel" 77 "ScopeLinesModel" "length" "[I" ∈ zGW := z_in4 (List.mem_of_getElem? (i := 24) rfl) rfl
theorem fd_Mo_77 : zFd "ScopeLinesModel" 77 9 32 (.array .int) false := ⟨R_Mo, T_Mo, 52, ck_Mo, by decide, by decide +kernel, rfl, rfl, Or.inl wf_Mo_77⟩
theorem wf_Mo_80 : Cond.fieldLink "ScopeLinesModel" 80 "ScopeLinesModel" "text" "[I" ∈ zGW := z_in4 (List.mem_of_getElem? (i := 25) rfl) rfl
theorem fd_Mo_80 : zFd "ScopeLinesModel" 80 9 33 (.array .int) false := ⟨R_Mo, T_Mo, 52, ck_Mo, by decide, by decide +kernel, rfl, rfl, Or.inl wf_Mo_80⟩
theorem wf_Mo_83 : Cond.fieldLink "ScopeLinesModel" 83 "ScopeLinesModel" "marked" "[Z" ∈ zGW := z_in4 (List.mem_of_getElem? (i := 26) rfl) rfl
theorem fd_Mo_83 : zFd "ScopeLinesModel" 83 9 34 (.array .boolean) false := ⟨R_Mo, T_Mo, 52, ck_Mo, by decide, by decide +kernel, rfl, rfl, Or.inl wf_Mo_83⟩
theorem wf_Mo_86 : Cond.fieldLink "ScopeLinesModel" 86 "ScopeLinesModel" "tokens" "[I" ∈ zGW := z_in4 (List.mem_of_getElem? (i := 27) rfl) rfl
theorem fd_Mo_86 : zFd "ScopeLinesModel" 86 9 35 (.array .int) false := ⟨R_Mo, T_Mo, 52, ck_Mo, by decide, by decide +kernel, rfl, rfl, Or.inl wf_Mo_86⟩
theorem wf_Mo_89 : Cond.fieldLink "ScopeLinesModel" 89 "ScopeLinesModel" "tokenAt" "[I" ∈ zGW := z_in4 (List.mem_of_getElem? (i := 28) rfl) rfl
theorem fd_Mo_89 : zFd "ScopeLinesModel" 89 9 36 (.array .int) false := ⟨R_Mo, T_Mo, 52, ck_Mo, by decide, by decide +kernel, rfl, rfl, Or.inl wf_Mo_89⟩
theorem wf_Mo_92 : Cond.fieldLink "ScopeLinesModel" 92 "ScopeLinesModel" "tokenScopes" "[I" ∈ zGW := z_in4 (List.mem_of_getElem? (i := 29) rfl) rfl
theorem fd_Mo_92 : zFd "ScopeLinesModel" 92 9 37 (.array .int) false := ⟨R_Mo, T_Mo, 52, ck_Mo, by decide, by decide +kernel, rfl, rfl, Or.inl wf_Mo_92⟩
theorem wf_Mo_95 : Cond.fieldLink "ScopeLinesModel" 95 "ScopeLinesModel" "tokenScope" "[I" ∈ zGW := z_in4 (List.mem_of_getElem? (i := 30) rfl) rfl
theorem fd_Mo_95 : zFd "ScopeLinesModel" 95 9 38 (.array .int) false := ⟨R_Mo, T_Mo, 52, ck_Mo, by decide, by decide +kernel, rfl, rfl, Or.inl wf_Mo_95⟩
theorem wf_Mo_98 : Cond.fieldLink "ScopeLinesModel" 98 "ScopeLinesModel" "depth" "[I" ∈ zGW := z_in4 (List.mem_of_getElem? (i := 31) rfl) rfl
theorem fd_Mo_98 : zFd "ScopeLinesModel" 98 9 39 (.array .int) false := ⟨R_Mo, T_Mo, 52, ck_Mo, by decide, by decide +kernel, rfl, rfl, Or.inl wf_Mo_98⟩
theorem wf_Mo_101 : Cond.fieldLink "ScopeLinesModel" 101 "ScopeLinesModel" "open" "[I" ∈ zGW := z_in4 (List.mem_of_getElem? (i := 32) rfl) rfl
theorem fd_Mo_101 : zFd "ScopeLinesModel" 101 9 40 (.array .int) false := ⟨R_Mo, T_Mo, 52, ck_Mo, by decide, by decide +kernel, rfl, rfl, Or.inl wf_Mo_101⟩
theorem wf_Mo_104 : Cond.fieldLink "ScopeLinesModel" 104 "ScopeLinesModel" "openLength" "[I" ∈ zGW := z_in4 (List.mem_of_getElem? (i := 33) rfl) rfl
theorem fd_Mo_104 : zFd "ScopeLinesModel" 104 9 41 (.array .int) false := ⟨R_Mo, T_Mo, 52, ck_Mo, by decide, by decide +kernel, rfl, rfl, Or.inl wf_Mo_104⟩
theorem wf_Mo_107 : Cond.fieldLink "ScopeLinesModel" 107 "ScopeLinesModel" "openText" "[I" ∈ zGW := z_in4 (List.mem_of_getElem? (i := 34) rfl) rfl
theorem fd_Mo_107 : zFd "ScopeLinesModel" 107 9 42 (.array .int) false := ⟨R_Mo, T_Mo, 52, ck_Mo, by decide, by decide +kernel, rfl, rfl, Or.inl wf_Mo_107⟩
theorem wf_Mo_110 : Cond.fieldLink "ScopeLinesModel" 110 "ScopeLinesModel" "candidates" "[I" ∈ zGW := z_in4 (List.mem_of_getElem? (i := 35) rfl) rfl
theorem fd_Mo_110 : zFd "ScopeLinesModel" 110 9 43 (.array .int) false := ⟨R_Mo, T_Mo, 52, ck_Mo, by decide, by decide +kernel, rfl, rfl, Or.inl wf_Mo_110⟩
theorem wf_Mo_113 : Cond.fieldLink "ScopeLinesModel" 113 "ScopeLinesModel" "bestGroup" "[I" ∈ zGW := z_in4 (List.mem_of_getElem? (i := 39) rfl) rfl
theorem fd_Mo_113 : zFd "ScopeLinesModel" 113 9 47 (.array .int) false := ⟨R_Mo, T_Mo, 52, ck_Mo, by decide, by decide +kernel, rfl, rfl, Or.inl wf_Mo_113⟩
theorem wf_Mo_116 : Cond.fieldLink "ScopeLinesModel" 116 "ScopeLinesModel" "entryScope" "[I" ∈ zGW := z_in4 (List.mem_of_getElem? (i := 41) rfl) rfl
theorem fd_Mo_116 : zFd "ScopeLinesModel" 116 9 49 (.array .int) false := ⟨R_Mo, T_Mo, 52, ck_Mo, by decide, by decide +kernel, rfl, rfl, Or.inl wf_Mo_116⟩
theorem wf_Mo_119 : Cond.fieldLink "ScopeLinesModel" 119 "ScopeLinesModel" "entryParent" "[I" ∈ zGW := z_in4 (List.mem_of_getElem? (i := 42) rfl) rfl
theorem fd_Mo_119 : zFd "ScopeLinesModel" 119 9 50 (.array .int) false := ⟨R_Mo, T_Mo, 52, ck_Mo, by decide, by decide +kernel, rfl, rfl, Or.inl wf_Mo_119⟩
theorem wf_Mo_122 : Cond.fieldLink "ScopeLinesModel" 122 "ScopeLinesModel" "entryColour" "[I" ∈ zGW := z_in4 (List.mem_of_getElem? (i := 43) rfl) rfl
theorem fd_Mo_122 : zFd "ScopeLinesModel" 122 9 51 (.array .int) false := ⟨R_Mo, T_Mo, 52, ck_Mo, by decide, by decide +kernel, rfl, rfl, Or.inl wf_Mo_122⟩
theorem wf_Mo_125 : Cond.fieldLink "ScopeLinesModel" 125 "ScopeLinesModel" "budget" "I" ∈ zGW := z_in3 (List.mem_of_getElem? (i := 232) rfl) rfl
theorem fd_Mo_125 : zFd "ScopeLinesModel" 125 9 0 (.int) false := ⟨R_Mo, T_Mo, 52, ck_Mo, by decide, by decide +kernel, rfl, rfl, Or.inl wf_Mo_125⟩
theorem wf_Mo_129 : Cond.fieldLink "ScopeLinesModel" 129 "ScopeLinesModel" "drafted" "I" ∈ zGW := z_in3 (List.mem_of_getElem? (i := 233) rfl) rfl
theorem fd_Mo_129 : zFd "ScopeLinesModel" 129 9 1 (.int) false := ⟨R_Mo, T_Mo, 52, ck_Mo, by decide, by decide +kernel, rfl, rfl, Or.inl wf_Mo_129⟩
theorem wm_Mo_132 : Cond.methodLink "ScopeLinesModel" 132 ⟨"ScopeLinesModel", "at", "(II)I"⟩ ∈ zGW := z_in4 (List.mem_of_getElem? (i := 177) rfl) rfl
theorem wn_Mo : Cond.initialized "ScopeLinesModel" ∈ zGW := z_in1 (List.mem_of_getElem? (i := 11) rfl) rfl
theorem wj_Mo_at : Cond.instanceMethod ⟨"ScopeLinesModel", "at", "(II)I"⟩ ∈ zGW := z_in4 (List.mem_of_getElem? (i := 179) rfl) rfl
theorem ws_Mo_at : Cond.selects m_Mo_at.1.cls m_Mo_at.1 m_Mo_at.1 ∈ zGW := z_inp (q := (⟨"ScopeLinesModel", "at", "(II)I"⟩, 52)) (List.mem_of_getElem? (i := 37) rfl)
theorem cw_Mo_items_132 : zCw m_Mo_items m_Mo_at 132 0 9 2 := ⟨Or.inl wm_Mo_132, wc_Mo_at, wn_Mo, ⟨by decide, by decide, by decide +kernel⟩, ⟨by decide, by decide⟩, (fun _ => ⟨wj_Mo_at, ws_Mo_at, by decide, T_Mo, 52, rfl⟩), (fun q => by cases q), (fun q => by cases q)⟩
theorem cw_Mo_simple_132 : zCw m_Mo_simple m_Mo_at 132 0 9 2 := ⟨Or.inl wm_Mo_132, wc_Mo_at, wn_Mo, ⟨by decide, by decide, by decide +kernel⟩, ⟨by decide, by decide⟩, (fun _ => ⟨wj_Mo_at, ws_Mo_at, by decide, T_Mo, 52, rfl⟩), (fun q => by cases q), (fun q => by cases q)⟩
theorem wm_Mo_136 : Cond.methodLink "ScopeLinesModel" 136 ⟨"ScopeLinesModel", "items", "(II)I"⟩ ∈ zGW := z_in4 (List.mem_of_getElem? (i := 201) rfl) rfl
theorem wj_Mo_items : Cond.instanceMethod ⟨"ScopeLinesModel", "items", "(II)I"⟩ ∈ zGW := z_in4 (List.mem_of_getElem? (i := 203) rfl) rfl
theorem ws_Mo_items : Cond.selects m_Mo_items.1.cls m_Mo_items.1 m_Mo_items.1 ∈ zGW := z_inp (q := (⟨"ScopeLinesModel", "items", "(II)I"⟩, 52)) (List.mem_of_getElem? (i := 43) rfl)
theorem cw_Mo_simple_136 : zCw m_Mo_simple m_Mo_items 136 0 9 2 := ⟨Or.inl wm_Mo_136, wc_Mo_items, wn_Mo, ⟨by decide, by decide, by decide +kernel⟩, ⟨by decide, by decide⟩, (fun _ => ⟨wj_Mo_items, ws_Mo_items, by decide, T_Mo, 52, rfl⟩), (fun q => by cases q), (fun q => by cases q)⟩
theorem wm_Mo_139 : Cond.methodLink "ScopeLinesModel" 139 ⟨"ScopeLinesModel", "quantifier", "(I)Z"⟩ ∈ zGW := z_in4 (List.mem_of_getElem? (i := 205) rfl) rfl
theorem wt_Mo_quantifier : Cond.static ⟨"ScopeLinesModel", "quantifier", "(I)Z"⟩ ∈ zGW := z_in4 (List.mem_of_getElem? (i := 206) rfl) rfl
theorem cw_Mo_simple_139 : zCw m_Mo_simple m_Mo_quantifier 139 1 0 1 := ⟨Or.inl wm_Mo_139, wc_Mo_quantifier, wn_Mo, ⟨by decide, by decide, by decide +kernel⟩, ⟨by decide, by decide⟩, (fun q => by cases q), (fun _ => wt_Mo_quantifier), (fun q => by cases q)⟩
theorem cw_Mo_isRef_132 : zCw m_Mo_isRef m_Mo_at 132 0 9 2 := ⟨Or.inl wm_Mo_132, wc_Mo_at, wn_Mo, ⟨by decide, by decide, by decide +kernel⟩, ⟨by decide, by decide⟩, (fun _ => ⟨wj_Mo_at, ws_Mo_at, by decide, T_Mo, 52, rfl⟩), (fun q => by cases q), (fun q => by cases q)⟩
theorem cw_Mo_quantified_132 : zCw m_Mo_quantified m_Mo_at 132 0 9 2 := ⟨Or.inl wm_Mo_132, wc_Mo_at, wn_Mo, ⟨by decide, by decide, by decide +kernel⟩, ⟨by decide, by decide⟩, (fun _ => ⟨wj_Mo_at, ws_Mo_at, by decide, T_Mo, 52, rfl⟩), (fun q => by cases q), (fun q => by cases q)⟩
theorem wm_Mo_143 : Cond.methodLink "ScopeLinesModel" 143 ⟨"ScopeLinesModel", "isRef", "(II)Z"⟩ ∈ zGW := z_in4 (List.mem_of_getElem? (i := 193) rfl) rfl
theorem wj_Mo_isRef : Cond.instanceMethod ⟨"ScopeLinesModel", "isRef", "(II)Z"⟩ ∈ zGW := z_in4 (List.mem_of_getElem? (i := 195) rfl) rfl
theorem ws_Mo_isRef : Cond.selects m_Mo_isRef.1.cls m_Mo_isRef.1 m_Mo_isRef.1 ∈ zGW := z_inp (q := (⟨"ScopeLinesModel", "isRef", "(II)Z"⟩, 52)) (List.mem_of_getElem? (i := 41) rfl)
theorem cw_Mo_quantified_143 : zCw m_Mo_quantified m_Mo_isRef 143 0 9 2 := ⟨Or.inl wm_Mo_143, wc_Mo_isRef, wn_Mo, ⟨by decide, by decide, by decide +kernel⟩, ⟨by decide, by decide⟩, (fun _ => ⟨wj_Mo_isRef, ws_Mo_isRef, by decide, T_Mo, 52, rfl⟩), (fun q => by cases q), (fun q => by cases q)⟩
theorem cw_Mo_parse_132 : zCw m_Mo_parse m_Mo_at 132 0 9 2 := ⟨Or.inl wm_Mo_132, wc_Mo_at, wn_Mo, ⟨by decide, by decide, by decide +kernel⟩, ⟨by decide, by decide⟩, (fun _ => ⟨wj_Mo_at, ws_Mo_at, by decide, T_Mo, 52, rfl⟩), (fun q => by cases q), (fun q => by cases q)⟩
theorem wm_Mo_147 : Cond.methodLink "ScopeLinesModel" 147 ⟨"ScopeLinesModel", "openLevel", "(II)V"⟩ ∈ zGW := z_in4 (List.mem_of_getElem? (i := 181) rfl) rfl
theorem wj_Mo_openLevel : Cond.instanceMethod ⟨"ScopeLinesModel", "openLevel", "(II)V"⟩ ∈ zGW := z_in4 (List.mem_of_getElem? (i := 183) rfl) rfl
theorem ws_Mo_openLevel : Cond.selects m_Mo_openLevel.1.cls m_Mo_openLevel.1 m_Mo_openLevel.1 ∈ zGW := z_inp (q := (⟨"ScopeLinesModel", "openLevel", "(II)V"⟩, 52)) (List.mem_of_getElem? (i := 38) rfl)
theorem cw_Mo_parse_147 : zCw m_Mo_parse m_Mo_openLevel 147 0 9 2 := ⟨Or.inl wm_Mo_147, wc_Mo_openLevel, wn_Mo, ⟨by decide, by decide, by decide +kernel⟩, ⟨by decide, by decide⟩, (fun _ => ⟨wj_Mo_openLevel, ws_Mo_openLevel, by decide, T_Mo, 52, rfl⟩), (fun q => by cases q), (fun q => by cases q)⟩
theorem wm_Mo_151 : Cond.methodLink "ScopeLinesModel" 151 ⟨"ScopeLinesModel", "note", "(III)V"⟩ ∈ zGW := z_in4 (List.mem_of_getElem? (i := 185) rfl) rfl
theorem wj_Mo_note : Cond.instanceMethod ⟨"ScopeLinesModel", "note", "(III)V"⟩ ∈ zGW := z_in4 (List.mem_of_getElem? (i := 187) rfl) rfl
theorem ws_Mo_note : Cond.selects m_Mo_note.1.cls m_Mo_note.1 m_Mo_note.1 ∈ zGW := z_inp (q := (⟨"ScopeLinesModel", "note", "(III)V"⟩, 52)) (List.mem_of_getElem? (i := 39) rfl)
theorem cw_Mo_parse_151 : zCw m_Mo_parse m_Mo_note 151 0 9 3 := ⟨Or.inl wm_Mo_151, wc_Mo_note, wn_Mo, ⟨by decide, by decide, by decide +kernel⟩, ⟨by decide, by decide⟩, (fun _ => ⟨wj_Mo_note, ws_Mo_note, by decide, T_Mo, 52, rfl⟩), (fun q => by cases q), (fun q => by cases q)⟩
theorem wm_Mo_155 : Cond.methodLink "ScopeLinesModel" 155 ⟨"ScopeLinesModel", "quantified", "(IIIZI)I"⟩ ∈ zGW := z_in4 (List.mem_of_getElem? (i := 189) rfl) rfl
theorem wj_Mo_quantified : Cond.instanceMethod ⟨"ScopeLinesModel", "quantified", "(IIIZI)I"⟩ ∈ zGW := z_in4 (List.mem_of_getElem? (i := 191) rfl) rfl
theorem ws_Mo_quantified : Cond.selects m_Mo_quantified.1.cls m_Mo_quantified.1 m_Mo_quantified.1 ∈ zGW := z_inp (q := (⟨"ScopeLinesModel", "quantified", "(IIIZI)I"⟩, 52)) (List.mem_of_getElem? (i := 40) rfl)
theorem cw_Mo_parse_155 : zCw m_Mo_parse m_Mo_quantified 155 0 9 5 := ⟨Or.inl wm_Mo_155, wc_Mo_quantified, wn_Mo, ⟨by decide, by decide, by decide +kernel⟩, ⟨by decide, by decide⟩, (fun _ => ⟨wj_Mo_quantified, ws_Mo_quantified, by decide, T_Mo, 52, rfl⟩), (fun q => by cases q), (fun q => by cases q)⟩
theorem wm_Mo_159 : Cond.methodLink "ScopeLinesModel" 159 ⟨"ScopeLinesModel", "simple", "(IIZ)I"⟩ ∈ zGW := z_in4 (List.mem_of_getElem? (i := 197) rfl) rfl
theorem wj_Mo_simple : Cond.instanceMethod ⟨"ScopeLinesModel", "simple", "(IIZ)I"⟩ ∈ zGW := z_in4 (List.mem_of_getElem? (i := 199) rfl) rfl
theorem ws_Mo_simple : Cond.selects m_Mo_simple.1.cls m_Mo_simple.1 m_Mo_simple.1 ∈ zGW := z_inp (q := (⟨"ScopeLinesModel", "simple", "(IIZ)I"⟩, 52)) (List.mem_of_getElem? (i := 42) rfl)
theorem cw_Mo_parse_159 : zCw m_Mo_parse m_Mo_simple 159 0 9 3 := ⟨Or.inl wm_Mo_159, wc_Mo_simple, wn_Mo, ⟨by decide, by decide, by decide +kernel⟩, ⟨by decide, by decide⟩, (fun _ => ⟨wj_Mo_simple, ws_Mo_simple, by decide, T_Mo, 52, rfl⟩), (fun q => by cases q), (fun q => by cases q)⟩
theorem cw_Mo_parse_143 : zCw m_Mo_parse m_Mo_isRef 143 0 9 2 := ⟨Or.inl wm_Mo_143, wc_Mo_isRef, wn_Mo, ⟨by decide, by decide, by decide +kernel⟩, ⟨by decide, by decide⟩, (fun _ => ⟨wj_Mo_isRef, ws_Mo_isRef, by decide, T_Mo, 52, rfl⟩), (fun q => by cases q), (fun q => by cases q)⟩
theorem cw_Mo_inItems_132 : zCw m_Mo_inItems m_Mo_at 132 0 9 2 := ⟨Or.inl wm_Mo_132, wc_Mo_at, wn_Mo, ⟨by decide, by decide, by decide +kernel⟩, ⟨by decide, by decide⟩, (fun _ => ⟨wj_Mo_at, ws_Mo_at, by decide, T_Mo, 52, rfl⟩), (fun q => by cases q), (fun q => by cases q)⟩
theorem wf_Mo_163 : Cond.fieldLink "ScopeLinesModel" 163 "ScopeLinesModel" "choices" "I" ∈ zGW := z_in4 (List.mem_of_getElem? (i := 18) rfl) rfl
theorem fd_Mo_163 : zFd "ScopeLinesModel" 163 9 26 (.int) false := ⟨R_Mo, T_Mo, 52, ck_Mo, by decide, by decide +kernel, rfl, rfl, Or.inl wf_Mo_163⟩
theorem wf_Mo_166 : Cond.fieldLink "ScopeLinesModel" 166 "ScopeLinesModel" "steps" "I" ∈ zGW := z_in4 (List.mem_of_getElem? (i := 13) rfl) rfl
theorem fd_Mo_166 : zFd "ScopeLinesModel" 166 9 21 (.int) false := ⟨R_Mo, T_Mo, 52, ck_Mo, by decide, by decide +kernel, rfl, rfl, Or.inl wf_Mo_166⟩
theorem wf_Mo_169 : Cond.fieldLink "ScopeLinesModel" 169 "ScopeLinesModel" "over" "Z" ∈ zGW := z_in4 (List.mem_of_getElem? (i := 14) rfl) rfl
theorem fd_Mo_169 : zFd "ScopeLinesModel" 169 9 22 (.boolean) false := ⟨R_Mo, T_Mo, 52, ck_Mo, by decide, by decide +kernel, rfl, rfl, Or.inl wf_Mo_169⟩
theorem cw_Mo_fits_132 : zCw m_Mo_fits m_Mo_at 132 0 9 2 := ⟨Or.inl wm_Mo_132, wc_Mo_at, wn_Mo, ⟨by decide, by decide, by decide +kernel⟩, ⟨by decide, by decide⟩, (fun _ => ⟨wj_Mo_at, ws_Mo_at, by decide, T_Mo, 52, rfl⟩), (fun q => by cases q), (fun q => by cases q)⟩
theorem cw_Mo_fits_143 : zCw m_Mo_fits m_Mo_isRef 143 0 9 2 := ⟨Or.inl wm_Mo_143, wc_Mo_isRef, wn_Mo, ⟨by decide, by decide, by decide +kernel⟩, ⟨by decide, by decide⟩, (fun _ => ⟨wj_Mo_isRef, ws_Mo_isRef, by decide, T_Mo, 52, rfl⟩), (fun q => by cases q), (fun q => by cases q)⟩
theorem wm_Mo_173 : Cond.methodLink "ScopeLinesModel" 173 ⟨"ScopeLinesModel", "step", "()Z"⟩ ∈ zGW := z_in5 (List.mem_of_getElem? (i := 20) rfl) rfl
theorem wj_Mo_step : Cond.instanceMethod ⟨"ScopeLinesModel", "step", "()Z"⟩ ∈ zGW := z_in5 (List.mem_of_getElem? (i := 22) rfl) rfl
theorem ws_Mo_step : Cond.selects m_Mo_step.1.cls m_Mo_step.1 m_Mo_step.1 ∈ zGW := z_inp (q := (⟨"ScopeLinesModel", "step", "()Z"⟩, 52)) (List.mem_of_getElem? (i := 57) rfl)
theorem cw_Mo_fits_173 : zCw m_Mo_fits m_Mo_step 173 0 9 0 := ⟨Or.inl wm_Mo_173, wc_Mo_step, wn_Mo, ⟨by decide, by decide, by decide +kernel⟩, ⟨by decide, by decide⟩, (fun _ => ⟨wj_Mo_step, ws_Mo_step, by decide, T_Mo, 52, rfl⟩), (fun q => by cases q), (fun q => by cases q)⟩
theorem wm_Mo_177 : Cond.methodLink "ScopeLinesModel" 177 ⟨"ScopeLinesModel", "inItems", "(III)Z"⟩ ∈ zGW := z_in5 (List.mem_of_getElem? (i := 24) rfl) rfl
theorem wj_Mo_inItems : Cond.instanceMethod ⟨"ScopeLinesModel", "inItems", "(III)Z"⟩ ∈ zGW := z_in5 (List.mem_of_getElem? (i := 26) rfl) rfl
theorem ws_Mo_inItems : Cond.selects m_Mo_inItems.1.cls m_Mo_inItems.1 m_Mo_inItems.1 ∈ zGW := z_inp (q := (⟨"ScopeLinesModel", "inItems", "(III)Z"⟩, 52)) (List.mem_of_getElem? (i := 58) rfl)
theorem cw_Mo_fits_177 : zCw m_Mo_fits m_Mo_inItems 177 0 9 3 := ⟨Or.inl wm_Mo_177, wc_Mo_inItems, wn_Mo, ⟨by decide, by decide, by decide +kernel⟩, ⟨by decide, by decide⟩, (fun _ => ⟨wj_Mo_inItems, ws_Mo_inItems, by decide, T_Mo, 52, rfl⟩), (fun q => by cases q), (fun q => by cases q)⟩
theorem cw_Mo_ended_132 : zCw m_Mo_ended m_Mo_at 132 0 9 2 := ⟨Or.inl wm_Mo_132, wc_Mo_at, wn_Mo, ⟨by decide, by decide, by decide +kernel⟩, ⟨by decide, by decide⟩, (fun _ => ⟨wj_Mo_at, ws_Mo_at, by decide, T_Mo, 52, rfl⟩), (fun q => by cases q), (fun q => by cases q)⟩
theorem wm_Mo_181 : Cond.methodLink "ScopeLinesModel" 181 ⟨"ScopeLinesModel", "push", "(III)V"⟩ ∈ zGW := z_in5 (List.mem_of_getElem? (i := 8) rfl) rfl
theorem wj_Mo_push : Cond.instanceMethod ⟨"ScopeLinesModel", "push", "(III)V"⟩ ∈ zGW := z_in5 (List.mem_of_getElem? (i := 10) rfl) rfl
theorem ws_Mo_push : Cond.selects m_Mo_push.1.cls m_Mo_push.1 m_Mo_push.1 ∈ zGW := z_inp (q := (⟨"ScopeLinesModel", "push", "(III)V"⟩, 52)) (List.mem_of_getElem? (i := 54) rfl)
theorem cw_Mo_match_181 : zCw m_Mo_match m_Mo_push 181 0 9 3 := ⟨Or.inl wm_Mo_181, wc_Mo_push, wn_Mo, ⟨by decide, by decide, by decide +kernel⟩, ⟨by decide, by decide⟩, (fun _ => ⟨wj_Mo_push, ws_Mo_push, by decide, T_Mo, 52, rfl⟩), (fun q => by cases q), (fun q => by cases q)⟩
theorem wm_Mo_184 : Cond.methodLink "ScopeLinesModel" 184 ⟨"ScopeLinesModel", "ended", "(II)Z"⟩ ∈ zGW := z_in5 (List.mem_of_getElem? (i := 12) rfl) rfl
theorem wj_Mo_ended : Cond.instanceMethod ⟨"ScopeLinesModel", "ended", "(II)Z"⟩ ∈ zGW := z_in5 (List.mem_of_getElem? (i := 14) rfl) rfl
theorem ws_Mo_ended : Cond.selects m_Mo_ended.1.cls m_Mo_ended.1 m_Mo_ended.1 ∈ zGW := z_inp (q := (⟨"ScopeLinesModel", "ended", "(II)Z"⟩, 52)) (List.mem_of_getElem? (i := 55) rfl)
theorem cw_Mo_match_184 : zCw m_Mo_match m_Mo_ended 184 0 9 2 := ⟨Or.inl wm_Mo_184, wc_Mo_ended, wn_Mo, ⟨by decide, by decide, by decide +kernel⟩, ⟨by decide, by decide⟩, (fun _ => ⟨wj_Mo_ended, ws_Mo_ended, by decide, T_Mo, 52, rfl⟩), (fun q => by cases q), (fun q => by cases q)⟩
theorem cw_Mo_match_132 : zCw m_Mo_match m_Mo_at 132 0 9 2 := ⟨Or.inl wm_Mo_132, wc_Mo_at, wn_Mo, ⟨by decide, by decide, by decide +kernel⟩, ⟨by decide, by decide⟩, (fun _ => ⟨wj_Mo_at, ws_Mo_at, by decide, T_Mo, 52, rfl⟩), (fun q => by cases q), (fun q => by cases q)⟩
theorem wm_Mo_187 : Cond.methodLink "ScopeLinesModel" 187 ⟨"ScopeLinesModel", "fits", "(IIII)I"⟩ ∈ zGW := z_in5 (List.mem_of_getElem? (i := 16) rfl) rfl
theorem wj_Mo_fits : Cond.instanceMethod ⟨"ScopeLinesModel", "fits", "(IIII)I"⟩ ∈ zGW := z_in5 (List.mem_of_getElem? (i := 18) rfl) rfl
theorem ws_Mo_fits : Cond.selects m_Mo_fits.1.cls m_Mo_fits.1 m_Mo_fits.1 ∈ zGW := z_inp (q := (⟨"ScopeLinesModel", "fits", "(IIII)I"⟩, 52)) (List.mem_of_getElem? (i := 56) rfl)
theorem cw_Mo_match_187 : zCw m_Mo_match m_Mo_fits 187 0 9 4 := ⟨Or.inl wm_Mo_187, wc_Mo_fits, wn_Mo, ⟨by decide, by decide, by decide +kernel⟩, ⟨by decide, by decide⟩, (fun _ => ⟨wj_Mo_fits, ws_Mo_fits, by decide, T_Mo, 52, rfl⟩), (fun q => by cases q), (fun q => by cases q)⟩
theorem wf_Mo_191 : Cond.fieldLink "ScopeLinesModel" 191 "ScopeLinesModel" "matchTo" "I" ∈ zGW := z_in4 (List.mem_of_getElem? (i := 16) rfl) rfl
theorem fd_Mo_191 : zFd "ScopeLinesModel" 191 9 24 (.int) false := ⟨R_Mo, T_Mo, 52, ck_Mo, by decide, by decide +kernel, rfl, rfl, Or.inl wf_Mo_191⟩
theorem wf_Mo_194 : Cond.fieldLink "ScopeLinesModel" 194 "ScopeLinesModel" "matchFrom" "I" ∈ zGW := z_in4 (List.mem_of_getElem? (i := 15) rfl) rfl
theorem fd_Mo_194 : zFd "ScopeLinesModel" 194 9 23 (.int) false := ⟨R_Mo, T_Mo, 52, ck_Mo, by decide, by decide +kernel, rfl, rfl, Or.inl wf_Mo_194⟩
theorem wm_Mo_197 : Cond.methodLink "ScopeLinesModel" 197 ⟨"ScopeLinesModel", "match", "(III)V"⟩ ∈ zGW := z_in5 (List.mem_of_getElem? (i := 4) rfl) rfl
theorem wj_Mo_match : Cond.instanceMethod ⟨"ScopeLinesModel", "match", "(III)V"⟩ ∈ zGW := z_in5 (List.mem_of_getElem? (i := 6) rfl) rfl
theorem ws_Mo_match : Cond.selects m_Mo_match.1.cls m_Mo_match.1 m_Mo_match.1 ∈ zGW := z_inp (q := (⟨"ScopeLinesModel", "match", "(III)V"⟩, 52)) (List.mem_of_getElem? (i := 53) rfl)
theorem cw_Mo_search_197 : zCw m_Mo_search m_Mo_match 197 0 9 3 := ⟨Or.inl wm_Mo_197, wc_Mo_match, wn_Mo, ⟨by decide, by decide, by decide +kernel⟩, ⟨by decide, by decide⟩, (fun _ => ⟨wj_Mo_match, ws_Mo_match, by decide, T_Mo, 52, rfl⟩), (fun q => by cases q), (fun q => by cases q)⟩
theorem wm_Mo_200 : Cond.methodLink "ScopeLinesModel" 200 ⟨"ScopeLinesModel", "copyState", "(II)V"⟩ ∈ zGW := z_in4 (List.mem_of_getElem? (i := 224) rfl) rfl
theorem wj_Mo_copyState : Cond.instanceMethod ⟨"ScopeLinesModel", "copyState", "(II)V"⟩ ∈ zGW := z_in4 (List.mem_of_getElem? (i := 226) rfl) rfl
theorem ws_Mo_copyState : Cond.selects m_Mo_copyState.1.cls m_Mo_copyState.1 m_Mo_copyState.1 ∈ zGW := z_inp (q := (⟨"ScopeLinesModel", "copyState", "(II)V"⟩, 52)) (List.mem_of_getElem? (i := 48) rfl)
theorem cw_Mo_begin_200 : zCw m_Mo_begin m_Mo_copyState 200 0 9 2 := ⟨Or.inl wm_Mo_200, wc_Mo_copyState, wn_Mo, ⟨by decide, by decide, by decide +kernel⟩, ⟨by decide, by decide⟩, (fun _ => ⟨wj_Mo_copyState, ws_Mo_copyState, by decide, T_Mo, 52, rfl⟩), (fun q => by cases q), (fun q => by cases q)⟩
theorem wf_Mo_203 : Cond.fieldLink "ScopeLinesModel" 203 "ScopeLinesModel" "rules" "I" ∈ zGW := z_in3 (List.mem_of_getElem? (i := 235) rfl) rfl
theorem fd_Mo_203 : zFd "ScopeLinesModel" 203 9 3 (.int) false := ⟨R_Mo, T_Mo, 52, ck_Mo, by decide, by decide +kernel, rfl, rfl, Or.inl wf_Mo_203⟩
theorem wm_Mo_206 : Cond.methodLink "ScopeLinesModel" 206 ⟨"ScopeLinesModel", "addRules", "(II)I"⟩ ∈ zGW := z_in4 (List.mem_of_getElem? (i := 236) rfl) rfl
theorem wj_Mo_addRules : Cond.instanceMethod ⟨"ScopeLinesModel", "addRules", "(II)I"⟩ ∈ zGW := z_in4 (List.mem_of_getElem? (i := 238) rfl) rfl
theorem ws_Mo_addRules : Cond.selects m_Mo_addRules.1.cls m_Mo_addRules.1 m_Mo_addRules.1 ∈ zGW := z_inp (q := (⟨"ScopeLinesModel", "addRules", "(II)I"⟩, 52)) (List.mem_of_getElem? (i := 51) rfl)
theorem cw_Mo_gather_206 : zCw m_Mo_gather m_Mo_addRules 206 0 9 2 := ⟨Or.inl wm_Mo_206, wc_Mo_addRules, wn_Mo, ⟨by decide, by decide, by decide +kernel⟩, ⟨by decide, by decide⟩, (fun _ => ⟨wj_Mo_addRules, ws_Mo_addRules, by decide, T_Mo, 52, rfl⟩), (fun q => by cases q), (fun q => by cases q)⟩
theorem wm_Mo_209 : Cond.methodLink "ScopeLinesModel" 209 ⟨"ScopeLinesModel", "gather", "()I"⟩ ∈ zGW := z_in4 (List.mem_of_getElem? (i := 232) rfl) rfl
theorem wj_Mo_gather : Cond.instanceMethod ⟨"ScopeLinesModel", "gather", "()I"⟩ ∈ zGW := z_in4 (List.mem_of_getElem? (i := 234) rfl) rfl
theorem ws_Mo_gather : Cond.selects m_Mo_gather.1.cls m_Mo_gather.1 m_Mo_gather.1 ∈ zGW := z_inp (q := (⟨"ScopeLinesModel", "gather", "()I"⟩, 52)) (List.mem_of_getElem? (i := 50) rfl)
theorem cw_Mo_findBest_209 : zCw m_Mo_findBest m_Mo_gather 209 0 9 0 := ⟨Or.inl wm_Mo_209, wc_Mo_gather, wn_Mo, ⟨by decide, by decide, by decide +kernel⟩, ⟨by decide, by decide⟩, (fun _ => ⟨wj_Mo_gather, ws_Mo_gather, by decide, T_Mo, 52, rfl⟩), (fun q => by cases q), (fun q => by cases q)⟩
theorem wf_Mo_213 : Cond.fieldLink "ScopeLinesModel" 213 "ScopeLinesModel" "best" "I" ∈ zGW := z_in4 (List.mem_of_getElem? (i := 36) rfl) rfl
theorem fd_Mo_213 : zFd "ScopeLinesModel" 213 9 44 (.int) false := ⟨R_Mo, T_Mo, 52, ck_Mo, by decide, by decide +kernel, rfl, rfl, Or.inl wf_Mo_213⟩
theorem wm_Mo_216 : Cond.methodLink "ScopeLinesModel" 216 ⟨"ScopeLinesModel", "search", "(III)V"⟩ ∈ zGW := z_in5 (List.mem_of_getElem? (i := 0) rfl) rfl
theorem wj_Mo_search : Cond.instanceMethod ⟨"ScopeLinesModel", "search", "(III)V"⟩ ∈ zGW := z_in5 (List.mem_of_getElem? (i := 2) rfl) rfl
theorem ws_Mo_search : Cond.selects m_Mo_search.1.cls m_Mo_search.1 m_Mo_search.1 ∈ zGW := z_inp (q := (⟨"ScopeLinesModel", "search", "(III)V"⟩, 52)) (List.mem_of_getElem? (i := 52) rfl)
theorem cw_Mo_findBest_216 : zCw m_Mo_findBest m_Mo_search 216 0 9 3 := ⟨Or.inl wm_Mo_216, wc_Mo_search, wn_Mo, ⟨by decide, by decide, by decide +kernel⟩, ⟨by decide, by decide⟩, (fun _ => ⟨wj_Mo_search, ws_Mo_search, by decide, T_Mo, 52, rfl⟩), (fun q => by cases q), (fun q => by cases q)⟩
theorem wf_Mo_219 : Cond.fieldLink "ScopeLinesModel" 219 "ScopeLinesModel" "bestFrom" "I" ∈ zGW := z_in4 (List.mem_of_getElem? (i := 37) rfl) rfl
theorem fd_Mo_219 : zFd "ScopeLinesModel" 219 9 45 (.int) false := ⟨R_Mo, T_Mo, 52, ck_Mo, by decide, by decide +kernel, rfl, rfl, Or.inl wf_Mo_219⟩
theorem wf_Mo_222 : Cond.fieldLink "ScopeLinesModel" 222 "ScopeLinesModel" "bestTo" "I" ∈ zGW := z_in4 (List.mem_of_getElem? (i := 38) rfl) rfl
theorem fd_Mo_222 : zFd "ScopeLinesModel" 222 9 46 (.int) false := ⟨R_Mo, T_Mo, 52, ck_Mo, by decide, by decide +kernel, rfl, rfl, Or.inl wf_Mo_222⟩
theorem wf_Mo_225 : Cond.fieldLink "ScopeLinesModel" 225 "ScopeLinesModel" "passes" "I" ∈ zGW := z_in4 (List.mem_of_getElem? (i := 23) rfl) rfl
theorem fd_Mo_225 : zFd "ScopeLinesModel" 225 9 31 (.int) false := ⟨R_Mo, T_Mo, 52, ck_Mo, by decide, by decide +kernel, rfl, rfl, Or.inl wf_Mo_225⟩
theorem wm_Mo_228 : Cond.methodLink "ScopeLinesModel" 228 ⟨"ScopeLinesModel", "begin", "(I)V"⟩ ∈ zGW := z_in4 (List.mem_of_getElem? (i := 220) rfl) rfl
theorem wj_Mo_begin : Cond.instanceMethod ⟨"ScopeLinesModel", "begin", "(I)V"⟩ ∈ zGW := z_in4 (List.mem_of_getElem? (i := 222) rfl) rfl
theorem ws_Mo_begin : Cond.selects m_Mo_begin.1.cls m_Mo_begin.1 m_Mo_begin.1 ∈ zGW := z_inp (q := (⟨"ScopeLinesModel", "begin", "(I)V"⟩, 52)) (List.mem_of_getElem? (i := 47) rfl)
theorem cw_Mo_tokenize_228 : zCw m_Mo_tokenize m_Mo_begin 228 0 9 1 := ⟨Or.inl wm_Mo_228, wc_Mo_begin, wn_Mo, ⟨by decide, by decide, by decide +kernel⟩, ⟨by decide, by decide⟩, (fun _ => ⟨wj_Mo_begin, ws_Mo_begin, by decide, T_Mo, 52, rfl⟩), (fun q => by cases q), (fun q => by cases q)⟩
theorem wm_Mo_232 : Cond.methodLink "ScopeLinesModel" 232 ⟨"ScopeLinesModel", "findBest", "(II)Z"⟩ ∈ zGW := z_in4 (List.mem_of_getElem? (i := 228) rfl) rfl
theorem wj_Mo_findBest : Cond.instanceMethod ⟨"ScopeLinesModel", "findBest", "(II)Z"⟩ ∈ zGW := z_in4 (List.mem_of_getElem? (i := 230) rfl) rfl
theorem ws_Mo_findBest : Cond.selects m_Mo_findBest.1.cls m_Mo_findBest.1 m_Mo_findBest.1 ∈ zGW := z_inp (q := (⟨"ScopeLinesModel", "findBest", "(II)Z"⟩, 52)) (List.mem_of_getElem? (i := 49) rfl)
theorem cw_Mo_tokenize_232 : zCw m_Mo_tokenize m_Mo_findBest 232 0 9 2 := ⟨Or.inl wm_Mo_232, wc_Mo_findBest, wn_Mo, ⟨by decide, by decide, by decide +kernel⟩, ⟨by decide, by decide⟩, (fun _ => ⟨wj_Mo_findBest, ws_Mo_findBest, by decide, T_Mo, 52, rfl⟩), (fun q => by cases q), (fun q => by cases q)⟩
theorem wm_Mo_235 : Cond.methodLink "ScopeLinesModel" 235 ⟨"ScopeLinesModel", "cutOff", "(IIII)V"⟩ ∈ zGW := z_in5 (List.mem_of_getElem? (i := 28) rfl) rfl
theorem wj_Mo_cutOff : Cond.instanceMethod ⟨"ScopeLinesModel", "cutOff", "(IIII)V"⟩ ∈ zGW := z_in5 (List.mem_of_getElem? (i := 30) rfl) rfl
theorem ws_Mo_cutOff : Cond.selects m_Mo_cutOff.1.cls m_Mo_cutOff.1 m_Mo_cutOff.1 ∈ zGW := z_inp (q := (⟨"ScopeLinesModel", "cutOff", "(IIII)V"⟩, 52)) (List.mem_of_getElem? (i := 59) rfl)
theorem cw_Mo_tokenize_235 : zCw m_Mo_tokenize m_Mo_cutOff 235 0 9 4 := ⟨Or.inl wm_Mo_235, wc_Mo_cutOff, wn_Mo, ⟨by decide, by decide, by decide +kernel⟩, ⟨by decide, by decide⟩, (fun _ => ⟨wj_Mo_cutOff, ws_Mo_cutOff, by decide, T_Mo, 52, rfl⟩), (fun q => by cases q), (fun q => by cases q)⟩
theorem wm_Mo_239 : Cond.methodLink "ScopeLinesModel" 239 ⟨"ScopeLinesModel", "openRange", "(II)V"⟩ ∈ zGW := z_in5 (List.mem_of_getElem? (i := 32) rfl) rfl
theorem wj_Mo_openRange : Cond.instanceMethod ⟨"ScopeLinesModel", "openRange", "(II)V"⟩ ∈ zGW := z_in5 (List.mem_of_getElem? (i := 34) rfl) rfl
theorem ws_Mo_openRange : Cond.selects m_Mo_openRange.1.cls m_Mo_openRange.1 m_Mo_openRange.1 ∈ zGW := z_inp (q := (⟨"ScopeLinesModel", "openRange", "(II)V"⟩, 52)) (List.mem_of_getElem? (i := 60) rfl)
theorem cw_Mo_tokenize_239 : zCw m_Mo_tokenize m_Mo_openRange 239 0 9 2 := ⟨Or.inl wm_Mo_239, wc_Mo_openRange, wn_Mo, ⟨by decide, by decide, by decide +kernel⟩, ⟨by decide, by decide⟩, (fun _ => ⟨wj_Mo_openRange, ws_Mo_openRange, by decide, T_Mo, 52, rfl⟩), (fun q => by cases q), (fun q => by cases q)⟩
theorem cw_Mo_tokenize_200 : zCw m_Mo_tokenize m_Mo_copyState 200 0 9 2 := ⟨Or.inl wm_Mo_200, wc_Mo_copyState, wn_Mo, ⟨by decide, by decide, by decide +kernel⟩, ⟨by decide, by decide⟩, (fun _ => ⟨wj_Mo_copyState, ws_Mo_copyState, by decide, T_Mo, 52, rfl⟩), (fun q => by cases q), (fun q => by cases q)⟩
theorem wf_Mo_242 : Cond.fieldLink "ScopeLinesModel" 242 "ScopeLinesModel" "lines" "I" ∈ zGW := z_in4 (List.mem_of_getElem? (i := 22) rfl) rfl
theorem fd_Mo_242 : zFd "ScopeLinesModel" 242 9 30 (.int) false := ⟨R_Mo, T_Mo, 52, ck_Mo, by decide, by decide +kernel, rfl, rfl, Or.inl wf_Mo_242⟩
theorem cw_Mo_refresh_200 : zCw m_Mo_refresh m_Mo_copyState 200 0 9 2 := ⟨Or.inl wm_Mo_200, wc_Mo_copyState, wn_Mo, ⟨by decide, by decide, by decide +kernel⟩, ⟨by decide, by decide⟩, (fun _ => ⟨wj_Mo_copyState, ws_Mo_copyState, by decide, T_Mo, 52, rfl⟩), (fun q => by cases q), (fun q => by cases q)⟩
theorem wm_Mo_245 : Cond.methodLink "ScopeLinesModel" 245 ⟨"ScopeLinesModel", "tokenize", "(I)V"⟩ ∈ zGW := z_in4 (List.mem_of_getElem? (i := 216) rfl) rfl
theorem wj_Mo_tokenize : Cond.instanceMethod ⟨"ScopeLinesModel", "tokenize", "(I)V"⟩ ∈ zGW := z_in4 (List.mem_of_getElem? (i := 218) rfl) rfl
theorem ws_Mo_tokenize : Cond.selects m_Mo_tokenize.1.cls m_Mo_tokenize.1 m_Mo_tokenize.1 ∈ zGW := z_inp (q := (⟨"ScopeLinesModel", "tokenize", "(I)V"⟩, 52)) (List.mem_of_getElem? (i := 46) rfl)
theorem cw_Mo_refresh_245 : zCw m_Mo_refresh m_Mo_tokenize 245 0 9 1 := ⟨Or.inl wm_Mo_245, wc_Mo_tokenize, wn_Mo, ⟨by decide, by decide, by decide +kernel⟩, ⟨by decide, by decide⟩, (fun _ => ⟨wj_Mo_tokenize, ws_Mo_tokenize, by decide, T_Mo, 52, rfl⟩), (fun q => by cases q), (fun q => by cases q)⟩
theorem wm_Mo_248 : Cond.methodLink "ScopeLinesModel" 248 ⟨"ScopeLinesModel", "sameState", "(II)Z"⟩ ∈ zGW := z_in5 (List.mem_of_getElem? (i := 56) rfl) rfl
theorem wj_Mo_sameState : Cond.instanceMethod ⟨"ScopeLinesModel", "sameState", "(II)Z"⟩ ∈ zGW := z_in5 (List.mem_of_getElem? (i := 58) rfl) rfl
theorem ws_Mo_sameState : Cond.selects m_Mo_sameState.1.cls m_Mo_sameState.1 m_Mo_sameState.1 ∈ zGW := z_inp (q := (⟨"ScopeLinesModel", "sameState", "(II)Z"⟩, 52)) (List.mem_of_getElem? (i := 62) rfl)
theorem cw_Mo_refresh_248 : zCw m_Mo_refresh m_Mo_sameState 248 0 9 2 := ⟨Or.inl wm_Mo_248, wc_Mo_sameState, wn_Mo, ⟨by decide, by decide, by decide +kernel⟩, ⟨by decide, by decide⟩, (fun _ => ⟨wj_Mo_sameState, ws_Mo_sameState, by decide, T_Mo, 52, rfl⟩), (fun q => by cases q), (fun q => by cases q)⟩
theorem cw_Mo_refreshAll_245 : zCw m_Mo_refreshAll m_Mo_tokenize 245 0 9 1 := ⟨Or.inl wm_Mo_245, wc_Mo_tokenize, wn_Mo, ⟨by decide, by decide, by decide +kernel⟩, ⟨by decide, by decide⟩, (fun _ => ⟨wj_Mo_tokenize, ws_Mo_tokenize, by decide, T_Mo, 52, rfl⟩), (fun q => by cases q), (fun q => by cases q)⟩
theorem wm_Mo_251 : Cond.methodLink "ScopeLinesModel" 251 ⟨"ScopeLinesModel", "lift", "(III)V"⟩ ∈ zGW := z_in4 (List.mem_of_getElem? (i := 169) rfl) rfl
theorem wj_Mo_lift : Cond.instanceMethod ⟨"ScopeLinesModel", "lift", "(III)V"⟩ ∈ zGW := z_in4 (List.mem_of_getElem? (i := 171) rfl) rfl
theorem ws_Mo_lift : Cond.selects m_Mo_lift.1.cls m_Mo_lift.1 m_Mo_lift.1 ∈ zGW := z_inp (q := (⟨"ScopeLinesModel", "lift", "(III)V"⟩, 52)) (List.mem_of_getElem? (i := 35) rfl)
theorem cw_Mo_isPattern_251 : zCw m_Mo_isPattern m_Mo_lift 251 0 9 3 := ⟨Or.inl wm_Mo_251, wc_Mo_lift, wn_Mo, ⟨by decide, by decide, by decide +kernel⟩, ⟨by decide, by decide⟩, (fun _ => ⟨wj_Mo_lift, ws_Mo_lift, by decide, T_Mo, 52, rfl⟩), (fun q => by cases q), (fun q => by cases q)⟩
theorem wm_Mo_254 : Cond.methodLink "ScopeLinesModel" 254 ⟨"ScopeLinesModel", "parse", "(IZ)Z"⟩ ∈ zGW := z_in4 (List.mem_of_getElem? (i := 173) rfl) rfl
theorem wj_Mo_parse : Cond.instanceMethod ⟨"ScopeLinesModel", "parse", "(IZ)Z"⟩ ∈ zGW := z_in4 (List.mem_of_getElem? (i := 175) rfl) rfl
theorem ws_Mo_parse : Cond.selects m_Mo_parse.1.cls m_Mo_parse.1 m_Mo_parse.1 ∈ zGW := z_inp (q := (⟨"ScopeLinesModel", "parse", "(IZ)Z"⟩, 52)) (List.mem_of_getElem? (i := 36) rfl)
theorem cw_Mo_isPattern_254 : zCw m_Mo_isPattern m_Mo_parse 254 0 9 2 := ⟨Or.inl wm_Mo_254, wc_Mo_parse, wn_Mo, ⟨by decide, by decide, by decide +kernel⟩, ⟨by decide, by decide⟩, (fun _ => ⟨wj_Mo_parse, ws_Mo_parse, by decide, T_Mo, 52, rfl⟩), (fun q => by cases q), (fun q => by cases q)⟩
theorem cw_Mo_make_251 : zCw m_Mo_make m_Mo_lift 251 0 9 3 := ⟨Or.inl wm_Mo_251, wc_Mo_lift, wn_Mo, ⟨by decide, by decide, by decide +kernel⟩, ⟨by decide, by decide⟩, (fun _ => ⟨wj_Mo_lift, ws_Mo_lift, by decide, T_Mo, 52, rfl⟩), (fun q => by cases q), (fun q => by cases q)⟩
theorem cw_Mo_make_254 : zCw m_Mo_make m_Mo_parse 254 0 9 2 := ⟨Or.inl wm_Mo_254, wc_Mo_parse, wn_Mo, ⟨by decide, by decide, by decide +kernel⟩, ⟨by decide, by decide⟩, (fun _ => ⟨wj_Mo_parse, ws_Mo_parse, by decide, T_Mo, 52, rfl⟩), (fun q => by cases q), (fun q => by cases q)⟩
theorem wm_Mo_258 : Cond.methodLink "ScopeLinesModel" 258 ⟨"ScopeLinesModel", "refreshAll", "()V"⟩ ∈ zGW := z_in4 (List.mem_of_getElem? (i := 212) rfl) rfl
theorem wj_Mo_refreshAll : Cond.instanceMethod ⟨"ScopeLinesModel", "refreshAll", "()V"⟩ ∈ zGW := z_in4 (List.mem_of_getElem? (i := 214) rfl) rfl
theorem ws_Mo_refreshAll : Cond.selects m_Mo_refreshAll.1.cls m_Mo_refreshAll.1 m_Mo_refreshAll.1 ∈ zGW := z_inp (q := (⟨"ScopeLinesModel", "refreshAll", "()V"⟩, 52)) (List.mem_of_getElem? (i := 45) rfl)
theorem cw_Mo_make_258 : zCw m_Mo_make m_Mo_refreshAll 258 0 9 0 := ⟨Or.inl wm_Mo_258, wc_Mo_refreshAll, wn_Mo, ⟨by decide, by decide, by decide +kernel⟩, ⟨by decide, by decide⟩, (fun _ => ⟨wj_Mo_refreshAll, ws_Mo_refreshAll, by decide, T_Mo, 52, rfl⟩), (fun q => by cases q), (fun q => by cases q)⟩
theorem wm_Mo_261 : Cond.methodLink "ScopeLinesModel" 261 ⟨"ScopeLinesModel", "isRangeNumber", "(I)Z"⟩ ∈ zGW := z_in4 (List.mem_of_getElem? (i := 161) rfl) rfl
theorem wj_Mo_isRangeNumber : Cond.instanceMethod ⟨"ScopeLinesModel", "isRangeNumber", "(I)Z"⟩ ∈ zGW := z_in4 (List.mem_of_getElem? (i := 163) rfl) rfl
theorem ws_Mo_isRangeNumber : Cond.selects m_Mo_isRangeNumber.1.cls m_Mo_isRangeNumber.1 m_Mo_isRangeNumber.1 ∈ zGW := z_inp (q := (⟨"ScopeLinesModel", "isRangeNumber", "(I)Z"⟩, 52)) (List.mem_of_getElem? (i := 33) rfl)
theorem cw_Mo_piece_261 : zCw m_Mo_piece m_Mo_isRangeNumber 261 0 9 1 := ⟨Or.inl wm_Mo_261, wc_Mo_isRangeNumber, wn_Mo, ⟨by decide, by decide, by decide +kernel⟩, ⟨by decide, by decide⟩, (fun _ => ⟨wj_Mo_isRangeNumber, ws_Mo_isRangeNumber, by decide, T_Mo, 52, rfl⟩), (fun q => by cases q), (fun q => by cases q)⟩
theorem wm_Mo_264 : Cond.methodLink "ScopeLinesModel" 264 ⟨"ScopeLinesModel", "isPattern", "(IIZ)Z"⟩ ∈ zGW := z_in4 (List.mem_of_getElem? (i := 165) rfl) rfl
theorem wj_Mo_isPattern : Cond.instanceMethod ⟨"ScopeLinesModel", "isPattern", "(IIZ)Z"⟩ ∈ zGW := z_in4 (List.mem_of_getElem? (i := 167) rfl) rfl
theorem ws_Mo_isPattern : Cond.selects m_Mo_isPattern.1.cls m_Mo_isPattern.1 m_Mo_isPattern.1 ∈ zGW := z_inp (q := (⟨"ScopeLinesModel", "isPattern", "(IIZ)Z"⟩, 52)) (List.mem_of_getElem? (i := 34) rfl)
theorem cw_Mo_piece_264 : zCw m_Mo_piece m_Mo_isPattern 264 0 9 3 := ⟨Or.inl wm_Mo_264, wc_Mo_isPattern, wn_Mo, ⟨by decide, by decide, by decide +kernel⟩, ⟨by decide, by decide⟩, (fun _ => ⟨wj_Mo_isPattern, ws_Mo_isPattern, by decide, T_Mo, 52, rfl⟩), (fun q => by cases q), (fun q => by cases q)⟩
theorem wm_Mo_268 : Cond.methodLink "ScopeLinesModel" 268 ⟨"ScopeLinesModel", "make", "(IIZI)I"⟩ ∈ zGW := z_in4 (List.mem_of_getElem? (i := 208) rfl) rfl
theorem wj_Mo_make : Cond.instanceMethod ⟨"ScopeLinesModel", "make", "(IIZI)I"⟩ ∈ zGW := z_in4 (List.mem_of_getElem? (i := 210) rfl) rfl
theorem ws_Mo_make : Cond.selects m_Mo_make.1.cls m_Mo_make.1 m_Mo_make.1 ∈ zGW := z_inp (q := (⟨"ScopeLinesModel", "make", "(IIZI)I"⟩, 52)) (List.mem_of_getElem? (i := 44) rfl)
theorem cw_Mo_piece_268 : zCw m_Mo_piece m_Mo_make 268 0 9 4 := ⟨Or.inl wm_Mo_268, wc_Mo_make, wn_Mo, ⟨by decide, by decide, by decide +kernel⟩, ⟨by decide, by decide⟩, (fun _ => ⟨wj_Mo_make, ws_Mo_make, by decide, T_Mo, 52, rfl⟩), (fun q => by cases q), (fun q => by cases q)⟩
theorem cw_Mo_range_261 : zCw m_Mo_range m_Mo_isRangeNumber 261 0 9 1 := ⟨Or.inl wm_Mo_261, wc_Mo_isRangeNumber, wn_Mo, ⟨by decide, by decide, by decide +kernel⟩, ⟨by decide, by decide⟩, (fun _ => ⟨wj_Mo_isRangeNumber, ws_Mo_isRangeNumber, by decide, T_Mo, 52, rfl⟩), (fun q => by cases q), (fun q => by cases q)⟩
theorem cw_Mo_range_264 : zCw m_Mo_range m_Mo_isPattern 264 0 9 3 := ⟨Or.inl wm_Mo_264, wc_Mo_isPattern, wn_Mo, ⟨by decide, by decide, by decide +kernel⟩, ⟨by decide, by decide⟩, (fun _ => ⟨wj_Mo_isPattern, ws_Mo_isPattern, by decide, T_Mo, 52, rfl⟩), (fun q => by cases q), (fun q => by cases q)⟩
theorem cw_Mo_range_268 : zCw m_Mo_range m_Mo_make 268 0 9 4 := ⟨Or.inl wm_Mo_268, wc_Mo_make, wn_Mo, ⟨by decide, by decide, by decide +kernel⟩, ⟨by decide, by decide⟩, (fun _ => ⟨wj_Mo_make, ws_Mo_make, by decide, T_Mo, 52, rfl⟩), (fun q => by cases q), (fun q => by cases q)⟩
theorem cw_Mo_include_261 : zCw m_Mo_include m_Mo_isRangeNumber 261 0 9 1 := ⟨Or.inl wm_Mo_261, wc_Mo_isRangeNumber, wn_Mo, ⟨by decide, by decide, by decide +kernel⟩, ⟨by decide, by decide⟩, (fun _ => ⟨wj_Mo_isRangeNumber, ws_Mo_isRangeNumber, by decide, T_Mo, 52, rfl⟩), (fun q => by cases q), (fun q => by cases q)⟩
theorem cw_Mo_include_258 : zCw m_Mo_include m_Mo_refreshAll 258 0 9 0 := ⟨Or.inl wm_Mo_258, wc_Mo_refreshAll, wn_Mo, ⟨by decide, by decide, by decide +kernel⟩, ⟨by decide, by decide⟩, (fun _ => ⟨wj_Mo_refreshAll, ws_Mo_refreshAll, by decide, T_Mo, 52, rfl⟩), (fun q => by cases q), (fun q => by cases q)⟩
theorem wf_Mo_272 : Cond.fieldLink "ScopeLinesModel" 272 "ScopeLinesModel" "entries" "I" ∈ zGW := z_in4 (List.mem_of_getElem? (i := 40) rfl) rfl
theorem fd_Mo_272 : zFd "ScopeLinesModel" 272 9 48 (.int) false := ⟨R_Mo, T_Mo, 52, ck_Mo, by decide, by decide +kernel, rfl, rfl, Or.inl wf_Mo_272⟩
theorem wm_Mo_275 : Cond.methodLink "ScopeLinesModel" 275 ⟨"ScopeLinesModel", "refresh", "(I)I"⟩ ∈ zGW := z_in5 (List.mem_of_getElem? (i := 52) rfl) rfl
theorem wj_Mo_refresh : Cond.instanceMethod ⟨"ScopeLinesModel", "refresh", "(I)I"⟩ ∈ zGW := z_in5 (List.mem_of_getElem? (i := 54) rfl) rfl
theorem ws_Mo_refresh : Cond.selects m_Mo_refresh.1.cls m_Mo_refresh.1 m_Mo_refresh.1 ∈ zGW := z_inp (q := (⟨"ScopeLinesModel", "refresh", "(I)I"⟩, 52)) (List.mem_of_getElem? (i := 61) rfl)
theorem cw_Mo_put_275 : zCw m_Mo_put m_Mo_refresh 275 0 9 1 := ⟨Or.inl wm_Mo_275, wc_Mo_refresh, wn_Mo, ⟨by decide, by decide, by decide +kernel⟩, ⟨by decide, by decide⟩, (fun _ => ⟨wj_Mo_refresh, ws_Mo_refresh, by decide, T_Mo, 52, rfl⟩), (fun q => by cases q), (fun q => by cases q)⟩
theorem cw_Mo_drop_200 : zCw m_Mo_drop m_Mo_copyState 200 0 9 2 := ⟨Or.inl wm_Mo_200, wc_Mo_copyState, wn_Mo, ⟨by decide, by decide, by decide +kernel⟩, ⟨by decide, by decide⟩, (fun _ => ⟨wj_Mo_copyState, ws_Mo_copyState, by decide, T_Mo, 52, rfl⟩), (fun q => by cases q), (fun q => by cases q)⟩
theorem cw_Mo_drop_275 : zCw m_Mo_drop m_Mo_refresh 275 0 9 1 := ⟨Or.inl wm_Mo_275, wc_Mo_refresh, wn_Mo, ⟨by decide, by decide, by decide +kernel⟩, ⟨by decide, by decide⟩, (fun _ => ⟨wj_Mo_refresh, ws_Mo_refresh, by decide, T_Mo, 52, rfl⟩), (fun q => by cases q), (fun q => by cases q)⟩
theorem wm_Mo_279 : Cond.methodLink "ScopeLinesModel" 279 ⟨"ScopeLinesModel", "isLine", "(I)Z"⟩ ∈ zGW := z_in5 (List.mem_of_getElem? (i := 76) rfl) rfl
theorem wj_Mo_isLine : Cond.instanceMethod ⟨"ScopeLinesModel", "isLine", "(I)Z"⟩ ∈ zGW := z_in5 (List.mem_of_getElem? (i := 78) rfl) rfl
theorem ws_Mo_isLine : Cond.selects m_Mo_isLine.1.cls m_Mo_isLine.1 m_Mo_isLine.1 ∈ zGW := z_inp (q := (⟨"ScopeLinesModel", "isLine", "(I)Z"⟩, 52)) (List.mem_of_getElem? (i := 63) rfl)
theorem cw_Mo_length_279 : zCw m_Mo_length m_Mo_isLine 279 0 9 1 := ⟨Or.inl wm_Mo_279, wc_Mo_isLine, wn_Mo, ⟨by decide, by decide, by decide +kernel⟩, ⟨by decide, by decide⟩, (fun _ => ⟨wj_Mo_isLine, ws_Mo_isLine, by decide, T_Mo, 52, rfl⟩), (fun q => by cases q), (fun q => by cases q)⟩
theorem cw_Mo_tokens_279 : zCw m_Mo_tokens m_Mo_isLine 279 0 9 1 := ⟨Or.inl wm_Mo_279, wc_Mo_isLine, wn_Mo, ⟨by decide, by decide, by decide +kernel⟩, ⟨by decide, by decide⟩, (fun _ => ⟨wj_Mo_isLine, ws_Mo_isLine, by decide, T_Mo, 52, rfl⟩), (fun q => by cases q), (fun q => by cases q)⟩
theorem wm_Mo_282 : Cond.methodLink "ScopeLinesModel" 282 ⟨"ScopeLinesModel", "entry", "(IIZ)I"⟩ ∈ zGW := z_in5 (List.mem_of_getElem? (i := 92) rfl) rfl
theorem wj_Mo_entry : Cond.instanceMethod ⟨"ScopeLinesModel", "entry", "(IIZ)I"⟩ ∈ zGW := z_in5 (List.mem_of_getElem? (i := 94) rfl) rfl
theorem ws_Mo_entry : Cond.selects m_Mo_entry.1.cls m_Mo_entry.1 m_Mo_entry.1 ∈ zGW := z_inp (q := (⟨"ScopeLinesModel", "entry", "(IIZ)I"⟩, 52)) (List.mem_of_getElem? (i := 65) rfl)
theorem cw_Mo_colour_282 : zCw m_Mo_colour m_Mo_entry 282 0 9 3 := ⟨Or.inl wm_Mo_282, wc_Mo_entry, wn_Mo, ⟨by decide, by decide, by decide +kernel⟩, ⟨by decide, by decide⟩, (fun _ => ⟨wj_Mo_entry, ws_Mo_entry, by decide, T_Mo, 52, rfl⟩), (fun q => by cases q), (fun q => by cases q)⟩
theorem cw_Mo_token_279 : zCw m_Mo_token m_Mo_isLine 279 0 9 1 := ⟨Or.inl wm_Mo_279, wc_Mo_isLine, wn_Mo, ⟨by decide, by decide, by decide +kernel⟩, ⟨by decide, by decide⟩, (fun _ => ⟨wj_Mo_isLine, ws_Mo_isLine, by decide, T_Mo, 52, rfl⟩), (fun q => by cases q), (fun q => by cases q)⟩
theorem wm_Mo_285 : Cond.methodLink "ScopeLinesModel" 285 ⟨"ScopeLinesModel", "colour", "(I)I"⟩ ∈ zGW := z_in5 (List.mem_of_getElem? (i := 88) rfl) rfl
theorem wj_Mo_colour : Cond.instanceMethod ⟨"ScopeLinesModel", "colour", "(I)I"⟩ ∈ zGW := z_in5 (List.mem_of_getElem? (i := 90) rfl) rfl
theorem ws_Mo_colour : Cond.selects m_Mo_colour.1.cls m_Mo_colour.1 m_Mo_colour.1 ∈ zGW := z_inp (q := (⟨"ScopeLinesModel", "colour", "(I)I"⟩, 52)) (List.mem_of_getElem? (i := 64) rfl)
theorem cw_Mo_token_285 : zCw m_Mo_token m_Mo_colour 285 0 9 1 := ⟨Or.inl wm_Mo_285, wc_Mo_colour, wn_Mo, ⟨by decide, by decide, by decide +kernel⟩, ⟨by decide, by decide⟩, (fun _ => ⟨wj_Mo_colour, ws_Mo_colour, by decide, T_Mo, 52, rfl⟩), (fun q => by cases q), (fun q => by cases q)⟩
theorem cw_Mo_marked_279 : zCw m_Mo_marked m_Mo_isLine 279 0 9 1 := ⟨Or.inl wm_Mo_279, wc_Mo_isLine, wn_Mo, ⟨by decide, by decide, by decide +kernel⟩, ⟨by decide, by decide⟩, (fun _ => ⟨wj_Mo_isLine, ws_Mo_isLine, by decide, T_Mo, 52, rfl⟩), (fun q => by cases q), (fun q => by cases q)⟩
theorem cw_Mo_state_279 : zCw m_Mo_state m_Mo_isLine 279 0 9 1 := ⟨Or.inl wm_Mo_279, wc_Mo_isLine, wn_Mo, ⟨by decide, by decide, by decide +kernel⟩, ⟨by decide, by decide⟩, (fun _ => ⟨wj_Mo_isLine, ws_Mo_isLine, by decide, T_Mo, 52, rfl⟩), (fun q => by cases q), (fun q => by cases q)⟩
theorem cw_Mo_text_279 : zCw m_Mo_text m_Mo_isLine 279 0 9 1 := ⟨Or.inl wm_Mo_279, wc_Mo_isLine, wn_Mo, ⟨by decide, by decide, by decide +kernel⟩, ⟨by decide, by decide⟩, (fun _ => ⟨wj_Mo_isLine, ws_Mo_isLine, by decide, T_Mo, 52, rfl⟩), (fun q => by cases q), (fun q => by cases q)⟩
theorem cw_Mo_find_279 : zCw m_Mo_find m_Mo_isLine 279 0 9 1 := ⟨Or.inl wm_Mo_279, wc_Mo_isLine, wn_Mo, ⟨by decide, by decide, by decide +kernel⟩, ⟨by decide, by decide⟩, (fun _ => ⟨wj_Mo_isLine, ws_Mo_isLine, by decide, T_Mo, 52, rfl⟩), (fun q => by cases q), (fun q => by cases q)⟩
theorem cw_Mo_find_216 : zCw m_Mo_find m_Mo_search 216 0 9 3 := ⟨Or.inl wm_Mo_216, wc_Mo_search, wn_Mo, ⟨by decide, by decide, by decide +kernel⟩, ⟨by decide, by decide⟩, (fun _ => ⟨wj_Mo_search, ws_Mo_search, by decide, T_Mo, 52, rfl⟩), (fun q => by cases q), (fun q => by cases q)⟩
theorem wk_Lw_7 : Cond.classLink "ScopeLinesLaw" 7 "ScopeLines" ∈ zGW := z_in1 (List.mem_of_getElem? (i := 14) rfl) rfl
theorem wi_SL : Cond.instantiable "ScopeLines" 10 ∈ zGW := z_in1 (List.mem_of_getElem? (i := 15) rfl) rfl
theorem nw_Lw_7 : zNw "ScopeLinesLaw" 7 0 10 := ⟨R_SL, T_SL, ck_SL, df_SL, wk_Lw_7, wi_SL, wn_SL⟩
theorem wm_Lw_9 : Cond.methodLink "ScopeLinesLaw" 9 ⟨"ScopeLinesLaw", "cell", "([II)I"⟩ ∈ zGW := z_in3 (List.mem_of_getElem? (i := 223) rfl) rfl
theorem wn_Lw : Cond.initialized "ScopeLinesLaw" ∈ zGW := z_in1 (List.mem_of_getElem? (i := 0) rfl) rfl
theorem wt_Lw_cell : Cond.static ⟨"ScopeLinesLaw", "cell", "([II)I"⟩ ∈ zGW := z_in3 (List.mem_of_getElem? (i := 224) rfl) rfl
theorem cw_Lw_law_9 : zCw m_Lw_law m_Lw_cell 9 1 0 2 := ⟨Or.inl wm_Lw_9, wc_Lw_cell, wn_Lw, ⟨by decide, by decide, by decide +kernel⟩, ⟨by decide, by decide⟩, (fun q => by cases q), (fun _ => wt_Lw_cell), (fun q => by cases q)⟩
theorem wm_Lw_15 : Cond.methodLink "ScopeLinesLaw" 15 ⟨"ScopeLines", "<init>", "(I)V"⟩ ∈ zGW := z_in1 (List.mem_of_getElem? (i := 16) rfl) rfl
theorem wj_SL_init : Cond.instanceMethod ⟨"ScopeLines", "<init>", "(I)V"⟩ ∈ zGW := z_in1 (List.mem_of_getElem? (i := 17) rfl) rfl
theorem cw_Lw_law_15 : zCw m_Lw_law m_SL_init 15 2 0 1 := ⟨Or.inl wm_Lw_15, wc_SL_init, wn_SL, ⟨by decide, by decide, by decide +kernel⟩, ⟨by decide, by decide⟩, (fun q => by cases q), (fun q => by cases q), (fun _ => ⟨rfl, rfl, wj_SL_init⟩)⟩
theorem wk_Lw_18 : Cond.classLink "ScopeLinesLaw" 18 "ScopeLinesModel" ∈ zGW := z_in3 (List.mem_of_getElem? (i := 226) rfl) rfl
theorem wi_Mo : Cond.instantiable "ScopeLinesModel" 52 ∈ zGW := z_in3 (List.mem_of_getElem? (i := 227) rfl) rfl
theorem nw_Lw_18 : zNw "ScopeLinesLaw" 18 9 52 := ⟨R_Mo, T_Mo, ck_Mo, df_Mo, wk_Lw_18, wi_Mo, wn_Mo⟩
theorem wm_Lw_20 : Cond.methodLink "ScopeLinesLaw" 20 ⟨"ScopeLinesModel", "<init>", "(I)V"⟩ ∈ zGW := z_in3 (List.mem_of_getElem? (i := 228) rfl) rfl
theorem wj_Mo_init : Cond.instanceMethod ⟨"ScopeLinesModel", "<init>", "(I)V"⟩ ∈ zGW := z_in3 (List.mem_of_getElem? (i := 229) rfl) rfl
theorem cw_Lw_law_20 : zCw m_Lw_law m_Mo_init 20 2 0 1 := ⟨Or.inl wm_Lw_20, wc_Mo_init, wn_Mo, ⟨by decide, by decide, by decide +kernel⟩, ⟨by decide, by decide⟩, (fun q => by cases q), (fun q => by cases q), (fun _ => ⟨rfl, rfl, wj_Mo_init⟩)⟩
theorem w_Lw_21 : Cond.constantLong "ScopeLinesLaw" 21 (Int64.ofInt (4294967295)) ∈ zGW := z_in5 (List.mem_of_getElem? (i := 112) rfl) rfl
theorem wm_Lw_23 : Cond.methodLink "ScopeLinesLaw" 23 ⟨"ScopeLines", "type", "(J)Z"⟩ ∈ zGW := z_in2 (List.mem_of_getElem? (i := 125) rfl) rfl
theorem wj_SL_type : Cond.instanceMethod ⟨"ScopeLines", "type", "(J)Z"⟩ ∈ zGW := z_in2 (List.mem_of_getElem? (i := 126) rfl) rfl
theorem ws_SL_type : Cond.selects m_SL_type.1.cls m_SL_type.1 m_SL_type.1 ∈ zGW := z_in2 (List.mem_of_getElem? (i := 127) rfl) rfl
theorem cw_Lw_law_23 : zCw m_Lw_law m_SL_type 23 0 0 1 := ⟨Or.inl wm_Lw_23, wc_SL_type, wn_SL, ⟨by decide, by decide, by decide +kernel⟩, ⟨by decide, by decide⟩, (fun _ => ⟨wj_SL_type, ws_SL_type, by decide, T_SL, 10, rfl⟩), (fun q => by cases q), (fun q => by cases q)⟩
theorem wm_Lw_27 : Cond.methodLink "ScopeLinesLaw" 27 ⟨"ScopeLinesModel", "type", "(J)Z"⟩ ∈ zGW := z_in4 (List.mem_of_getElem? (i := 149) rfl) rfl
theorem wj_Mo_type : Cond.instanceMethod ⟨"ScopeLinesModel", "type", "(J)Z"⟩ ∈ zGW := z_in4 (List.mem_of_getElem? (i := 150) rfl) rfl
theorem ws_Mo_type : Cond.selects m_Mo_type.1.cls m_Mo_type.1 m_Mo_type.1 ∈ zGW := z_in4 (List.mem_of_getElem? (i := 151) rfl) rfl
theorem cw_Lw_law_27 : zCw m_Lw_law m_Mo_type 27 0 9 1 := ⟨Or.inl wm_Lw_27, wc_Mo_type, wn_Mo, ⟨by decide, by decide, by decide +kernel⟩, ⟨by decide, by decide⟩, (fun _ => ⟨wj_Mo_type, ws_Mo_type, by decide, T_Mo, 52, rfl⟩), (fun q => by cases q), (fun q => by cases q)⟩
theorem wm_Lw_28 : Cond.methodLink "ScopeLinesLaw" 28 ⟨"ScopeLines", "wipe", "()V"⟩ ∈ zGW := z_in2 (List.mem_of_getElem? (i := 129) rfl) rfl
theorem wj_SL_wipe : Cond.instanceMethod ⟨"ScopeLines", "wipe", "()V"⟩ ∈ zGW := z_in2 (List.mem_of_getElem? (i := 130) rfl) rfl
theorem ws_SL_wipe : Cond.selects m_SL_wipe.1.cls m_SL_wipe.1 m_SL_wipe.1 ∈ zGW := z_in2 (List.mem_of_getElem? (i := 131) rfl) rfl
theorem cw_Lw_law_28 : zCw m_Lw_law m_SL_wipe 28 0 0 0 := ⟨Or.inl wm_Lw_28, wc_SL_wipe, wn_SL, ⟨by decide, by decide, by decide +kernel⟩, ⟨by decide, by decide⟩, (fun _ => ⟨wj_SL_wipe, ws_SL_wipe, by decide, T_SL, 10, rfl⟩), (fun q => by cases q), (fun q => by cases q)⟩
theorem wm_Lw_31 : Cond.methodLink "ScopeLinesLaw" 31 ⟨"ScopeLinesModel", "wipe", "()V"⟩ ∈ zGW := z_in4 (List.mem_of_getElem? (i := 153) rfl) rfl
theorem wj_Mo_wipe : Cond.instanceMethod ⟨"ScopeLinesModel", "wipe", "()V"⟩ ∈ zGW := z_in4 (List.mem_of_getElem? (i := 154) rfl) rfl
theorem ws_Mo_wipe : Cond.selects m_Mo_wipe.1.cls m_Mo_wipe.1 m_Mo_wipe.1 ∈ zGW := z_in4 (List.mem_of_getElem? (i := 155) rfl) rfl
theorem cw_Lw_law_31 : zCw m_Lw_law m_Mo_wipe 31 0 9 0 := ⟨Or.inl wm_Lw_31, wc_Mo_wipe, wn_Mo, ⟨by decide, by decide, by decide +kernel⟩, ⟨by decide, by decide⟩, (fun _ => ⟨wj_Mo_wipe, ws_Mo_wipe, by decide, T_Mo, 52, rfl⟩), (fun q => by cases q), (fun q => by cases q)⟩
theorem wm_Lw_32 : Cond.methodLink "ScopeLinesLaw" 32 ⟨"ScopeLines", "piece", "(II)I"⟩ ∈ zGW := z_in2 (List.mem_of_getElem? (i := 133) rfl) rfl
theorem wj_SL_piece : Cond.instanceMethod ⟨"ScopeLines", "piece", "(II)I"⟩ ∈ zGW := z_in2 (List.mem_of_getElem? (i := 134) rfl) rfl
theorem ws_SL_piece : Cond.selects m_SL_piece.1.cls m_SL_piece.1 m_SL_piece.1 ∈ zGW := z_in2 (List.mem_of_getElem? (i := 135) rfl) rfl
theorem cw_Lw_law_32 : zCw m_Lw_law m_SL_piece 32 0 0 2 := ⟨Or.inl wm_Lw_32, wc_SL_piece, wn_SL, ⟨by decide, by decide, by decide +kernel⟩, ⟨by decide, by decide⟩, (fun _ => ⟨wj_SL_piece, ws_SL_piece, by decide, T_SL, 10, rfl⟩), (fun q => by cases q), (fun q => by cases q)⟩
theorem wm_Lw_36 : Cond.methodLink "ScopeLinesLaw" 36 ⟨"ScopeLinesModel", "piece", "(II)I"⟩ ∈ zGW := z_in4 (List.mem_of_getElem? (i := 157) rfl) rfl
theorem wj_Mo_piece : Cond.instanceMethod ⟨"ScopeLinesModel", "piece", "(II)I"⟩ ∈ zGW := z_in4 (List.mem_of_getElem? (i := 158) rfl) rfl
theorem ws_Mo_piece : Cond.selects m_Mo_piece.1.cls m_Mo_piece.1 m_Mo_piece.1 ∈ zGW := z_in4 (List.mem_of_getElem? (i := 159) rfl) rfl
theorem cw_Lw_law_36 : zCw m_Lw_law m_Mo_piece 36 0 9 2 := ⟨Or.inl wm_Lw_36, wc_Mo_piece, wn_Mo, ⟨by decide, by decide, by decide +kernel⟩, ⟨by decide, by decide⟩, (fun _ => ⟨wj_Mo_piece, ws_Mo_piece, by decide, T_Mo, 52, rfl⟩), (fun q => by cases q), (fun q => by cases q)⟩
theorem wm_Lw_37 : Cond.methodLink "ScopeLinesLaw" 37 ⟨"ScopeLines", "range", "(II)I"⟩ ∈ zGW := z_in3 (List.mem_of_getElem? (i := 124) rfl) rfl
theorem wj_SL_range : Cond.instanceMethod ⟨"ScopeLines", "range", "(II)I"⟩ ∈ zGW := z_in3 (List.mem_of_getElem? (i := 125) rfl) rfl
theorem ws_SL_range : Cond.selects m_SL_range.1.cls m_SL_range.1 m_SL_range.1 ∈ zGW := z_in3 (List.mem_of_getElem? (i := 126) rfl) rfl
theorem cw_Lw_law_37 : zCw m_Lw_law m_SL_range 37 0 0 2 := ⟨Or.inl wm_Lw_37, wc_SL_range, wn_SL, ⟨by decide, by decide, by decide +kernel⟩, ⟨by decide, by decide⟩, (fun _ => ⟨wj_SL_range, ws_SL_range, by decide, T_SL, 10, rfl⟩), (fun q => by cases q), (fun q => by cases q)⟩
theorem wm_Lw_40 : Cond.methodLink "ScopeLinesLaw" 40 ⟨"ScopeLinesModel", "range", "(II)I"⟩ ∈ zGW := z_in5 (List.mem_of_getElem? (i := 36) rfl) rfl
theorem wj_Mo_range : Cond.instanceMethod ⟨"ScopeLinesModel", "range", "(II)I"⟩ ∈ zGW := z_in5 (List.mem_of_getElem? (i := 37) rfl) rfl
theorem ws_Mo_range : Cond.selects m_Mo_range.1.cls m_Mo_range.1 m_Mo_range.1 ∈ zGW := z_in5 (List.mem_of_getElem? (i := 38) rfl) rfl
theorem cw_Lw_law_40 : zCw m_Lw_law m_Mo_range 40 0 9 2 := ⟨Or.inl wm_Lw_40, wc_Mo_range, wn_Mo, ⟨by decide, by decide, by decide +kernel⟩, ⟨by decide, by decide⟩, (fun _ => ⟨wj_Mo_range, ws_Mo_range, by decide, T_Mo, 52, rfl⟩), (fun q => by cases q), (fun q => by cases q)⟩
theorem wm_Lw_41 : Cond.methodLink "ScopeLinesLaw" 41 ⟨"ScopeLines", "include", "(II)Z"⟩ ∈ zGW := z_in3 (List.mem_of_getElem? (i := 132) rfl) rfl
theorem wj_SL_include : Cond.instanceMethod ⟨"ScopeLines", "include", "(II)Z"⟩ ∈ zGW := z_in3 (List.mem_of_getElem? (i := 133) rfl) rfl
theorem ws_SL_include : Cond.selects m_SL_include.1.cls m_SL_include.1 m_SL_include.1 ∈ zGW := z_in3 (List.mem_of_getElem? (i := 134) rfl) rfl
theorem cw_Lw_law_41 : zCw m_Lw_law m_SL_include 41 0 0 2 := ⟨Or.inl wm_Lw_41, wc_SL_include, wn_SL, ⟨by decide, by decide, by decide +kernel⟩, ⟨by decide, by decide⟩, (fun _ => ⟨wj_SL_include, ws_SL_include, by decide, T_SL, 10, rfl⟩), (fun q => by cases q), (fun q => by cases q)⟩
theorem wm_Lw_45 : Cond.methodLink "ScopeLinesLaw" 45 ⟨"ScopeLinesModel", "include", "(II)Z"⟩ ∈ zGW := z_in5 (List.mem_of_getElem? (i := 40) rfl) rfl
theorem wj_Mo_include : Cond.instanceMethod ⟨"ScopeLinesModel", "include", "(II)Z"⟩ ∈ zGW := z_in5 (List.mem_of_getElem? (i := 41) rfl) rfl
theorem ws_Mo_include : Cond.selects m_Mo_include.1.cls m_Mo_include.1 m_Mo_include.1 ∈ zGW := z_in5 (List.mem_of_getElem? (i := 42) rfl) rfl
theorem cw_Lw_law_45 : zCw m_Lw_law m_Mo_include 45 0 9 2 := ⟨Or.inl wm_Lw_45, wc_Mo_include, wn_Mo, ⟨by decide, by decide, by decide +kernel⟩, ⟨by decide, by decide⟩, (fun _ => ⟨wj_Mo_include, ws_Mo_include, by decide, T_Mo, 52, rfl⟩), (fun q => by cases q), (fun q => by cases q)⟩
theorem wm_Lw_46 : Cond.methodLink "ScopeLinesLaw" 46 ⟨"ScopeLines", "theme", "(III)Z"⟩ ∈ zGW := z_in3 (List.mem_of_getElem? (i := 136) rfl) rfl
theorem wj_SL_theme : Cond.instanceMethod ⟨"ScopeLines", "theme", "(III)Z"⟩ ∈ zGW := z_in3 (List.mem_of_getElem? (i := 137) rfl) rfl
theorem ws_SL_theme : Cond.selects m_SL_theme.1.cls m_SL_theme.1 m_SL_theme.1 ∈ zGW := z_in3 (List.mem_of_getElem? (i := 138) rfl) rfl
theorem cw_Lw_law_46 : zCw m_Lw_law m_SL_theme 46 0 0 3 := ⟨Or.inl wm_Lw_46, wc_SL_theme, wn_SL, ⟨by decide, by decide, by decide +kernel⟩, ⟨by decide, by decide⟩, (fun _ => ⟨wj_SL_theme, ws_SL_theme, by decide, T_SL, 10, rfl⟩), (fun q => by cases q), (fun q => by cases q)⟩
theorem wm_Lw_50 : Cond.methodLink "ScopeLinesLaw" 50 ⟨"ScopeLinesModel", "theme", "(III)Z"⟩ ∈ zGW := z_in5 (List.mem_of_getElem? (i := 44) rfl) rfl
theorem wj_Mo_theme : Cond.instanceMethod ⟨"ScopeLinesModel", "theme", "(III)Z"⟩ ∈ zGW := z_in5 (List.mem_of_getElem? (i := 45) rfl) rfl
theorem ws_Mo_theme : Cond.selects m_Mo_theme.1.cls m_Mo_theme.1 m_Mo_theme.1 ∈ zGW := z_in5 (List.mem_of_getElem? (i := 46) rfl) rfl
theorem cw_Lw_law_50 : zCw m_Lw_law m_Mo_theme 50 0 9 3 := ⟨Or.inl wm_Lw_50, wc_Mo_theme, wn_Mo, ⟨by decide, by decide, by decide +kernel⟩, ⟨by decide, by decide⟩, (fun _ => ⟨wj_Mo_theme, ws_Mo_theme, by decide, T_Mo, 52, rfl⟩), (fun q => by cases q), (fun q => by cases q)⟩
theorem wm_Lw_51 : Cond.methodLink "ScopeLinesLaw" 51 ⟨"ScopeLines", "put", "(I)I"⟩ ∈ zGW := z_in3 (List.mem_of_getElem? (i := 144) rfl) rfl
theorem wj_SL_put : Cond.instanceMethod ⟨"ScopeLines", "put", "(I)I"⟩ ∈ zGW := z_in3 (List.mem_of_getElem? (i := 145) rfl) rfl
theorem ws_SL_put : Cond.selects m_SL_put.1.cls m_SL_put.1 m_SL_put.1 ∈ zGW := z_in3 (List.mem_of_getElem? (i := 146) rfl) rfl
theorem cw_Lw_law_51 : zCw m_Lw_law m_SL_put 51 0 0 1 := ⟨Or.inl wm_Lw_51, wc_SL_put, wn_SL, ⟨by decide, by decide, by decide +kernel⟩, ⟨by decide, by decide⟩, (fun _ => ⟨wj_SL_put, ws_SL_put, by decide, T_SL, 10, rfl⟩), (fun q => by cases q), (fun q => by cases q)⟩
theorem wm_Lw_55 : Cond.methodLink "ScopeLinesLaw" 55 ⟨"ScopeLinesModel", "put", "(I)I"⟩ ∈ zGW := z_in5 (List.mem_of_getElem? (i := 48) rfl) rfl
theorem wj_Mo_put : Cond.instanceMethod ⟨"ScopeLinesModel", "put", "(I)I"⟩ ∈ zGW := z_in5 (List.mem_of_getElem? (i := 49) rfl) rfl
theorem ws_Mo_put : Cond.selects m_Mo_put.1.cls m_Mo_put.1 m_Mo_put.1 ∈ zGW := z_in5 (List.mem_of_getElem? (i := 50) rfl) rfl
theorem cw_Lw_law_55 : zCw m_Lw_law m_Mo_put 55 0 9 1 := ⟨Or.inl wm_Lw_55, wc_Mo_put, wn_Mo, ⟨by decide, by decide, by decide +kernel⟩, ⟨by decide, by decide⟩, (fun _ => ⟨wj_Mo_put, ws_Mo_put, by decide, T_Mo, 52, rfl⟩), (fun q => by cases q), (fun q => by cases q)⟩
theorem wm_Lw_56 : Cond.methodLink "ScopeLinesLaw" 56 ⟨"ScopeLines", "drop", "(I)I"⟩ ∈ zGW := z_in3 (List.mem_of_getElem? (i := 153) rfl) rfl
theorem wj_SL_drop : Cond.instanceMethod ⟨"ScopeLines", "drop", "(I)I"⟩ ∈ zGW := z_in3 (List.mem_of_getElem? (i := 154) rfl) rfl
theorem ws_SL_drop : Cond.selects m_SL_drop.1.cls m_SL_drop.1 m_SL_drop.1 ∈ zGW := z_in3 (List.mem_of_getElem? (i := 155) rfl) rfl
theorem cw_Lw_law_56 : zCw m_Lw_law m_SL_drop 56 0 0 1 := ⟨Or.inl wm_Lw_56, wc_SL_drop, wn_SL, ⟨by decide, by decide, by decide +kernel⟩, ⟨by decide, by decide⟩, (fun _ => ⟨wj_SL_drop, ws_SL_drop, by decide, T_SL, 10, rfl⟩), (fun q => by cases q), (fun q => by cases q)⟩
theorem wm_Lw_59 : Cond.methodLink "ScopeLinesLaw" 59 ⟨"ScopeLinesModel", "drop", "(I)I"⟩ ∈ zGW := z_in5 (List.mem_of_getElem? (i := 60) rfl) rfl
theorem wj_Mo_drop : Cond.instanceMethod ⟨"ScopeLinesModel", "drop", "(I)I"⟩ ∈ zGW := z_in5 (List.mem_of_getElem? (i := 61) rfl) rfl
theorem ws_Mo_drop : Cond.selects m_Mo_drop.1.cls m_Mo_drop.1 m_Mo_drop.1 ∈ zGW := z_in5 (List.mem_of_getElem? (i := 62) rfl) rfl
theorem cw_Lw_law_59 : zCw m_Lw_law m_Mo_drop 59 0 9 1 := ⟨Or.inl wm_Lw_59, wc_Mo_drop, wn_Mo, ⟨by decide, by decide, by decide +kernel⟩, ⟨by decide, by decide⟩, (fun _ => ⟨wj_Mo_drop, ws_Mo_drop, by decide, T_Mo, 52, rfl⟩), (fun q => by cases q), (fun q => by cases q)⟩
theorem wm_Lw_60 : Cond.methodLink "ScopeLinesLaw" 60 ⟨"ScopeLines", "lines", "()I"⟩ ∈ zGW := z_in3 (List.mem_of_getElem? (i := 161) rfl) rfl
theorem wj_SL_lines : Cond.instanceMethod ⟨"ScopeLines", "lines", "()I"⟩ ∈ zGW := z_in3 (List.mem_of_getElem? (i := 162) rfl) rfl
theorem ws_SL_lines : Cond.selects m_SL_lines.1.cls m_SL_lines.1 m_SL_lines.1 ∈ zGW := z_in3 (List.mem_of_getElem? (i := 163) rfl) rfl
theorem cw_Lw_law_60 : zCw m_Lw_law m_SL_lines 60 0 0 0 := ⟨Or.inl wm_Lw_60, wc_SL_lines, wn_SL, ⟨by decide, by decide, by decide +kernel⟩, ⟨by decide, by decide⟩, (fun _ => ⟨wj_SL_lines, ws_SL_lines, by decide, T_SL, 10, rfl⟩), (fun q => by cases q), (fun q => by cases q)⟩
theorem wm_Lw_64 : Cond.methodLink "ScopeLinesLaw" 64 ⟨"ScopeLinesModel", "lines", "()I"⟩ ∈ zGW := z_in5 (List.mem_of_getElem? (i := 64) rfl) rfl
theorem wj_Mo_lines : Cond.instanceMethod ⟨"ScopeLinesModel", "lines", "()I"⟩ ∈ zGW := z_in5 (List.mem_of_getElem? (i := 65) rfl) rfl
theorem ws_Mo_lines : Cond.selects m_Mo_lines.1.cls m_Mo_lines.1 m_Mo_lines.1 ∈ zGW := z_in5 (List.mem_of_getElem? (i := 66) rfl) rfl
theorem cw_Lw_law_64 : zCw m_Lw_law m_Mo_lines 64 0 9 0 := ⟨Or.inl wm_Lw_64, wc_Mo_lines, wn_Mo, ⟨by decide, by decide, by decide +kernel⟩, ⟨by decide, by decide⟩, (fun _ => ⟨wj_Mo_lines, ws_Mo_lines, by decide, T_Mo, 52, rfl⟩), (fun q => by cases q), (fun q => by cases q)⟩
theorem wm_Lw_65 : Cond.methodLink "ScopeLinesLaw" 65 ⟨"ScopeLines", "passes", "()I"⟩ ∈ zGW := z_in3 (List.mem_of_getElem? (i := 165) rfl) rfl
theorem wj_SL_passes : Cond.instanceMethod ⟨"ScopeLines", "passes", "()I"⟩ ∈ zGW := z_in3 (List.mem_of_getElem? (i := 166) rfl) rfl
theorem ws_SL_passes : Cond.selects m_SL_passes.1.cls m_SL_passes.1 m_SL_passes.1 ∈ zGW := z_in3 (List.mem_of_getElem? (i := 167) rfl) rfl
theorem cw_Lw_law_65 : zCw m_Lw_law m_SL_passes 65 0 0 0 := ⟨Or.inl wm_Lw_65, wc_SL_passes, wn_SL, ⟨by decide, by decide, by decide +kernel⟩, ⟨by decide, by decide⟩, (fun _ => ⟨wj_SL_passes, ws_SL_passes, by decide, T_SL, 10, rfl⟩), (fun q => by cases q), (fun q => by cases q)⟩
theorem wm_Lw_68 : Cond.methodLink "ScopeLinesLaw" 68 ⟨"ScopeLinesModel", "passes", "()I"⟩ ∈ zGW := z_in5 (List.mem_of_getElem? (i := 68) rfl) rfl
theorem wj_Mo_passes : Cond.instanceMethod ⟨"ScopeLinesModel", "passes", "()I"⟩ ∈ zGW := z_in5 (List.mem_of_getElem? (i := 69) rfl) rfl
theorem ws_Mo_passes : Cond.selects m_Mo_passes.1.cls m_Mo_passes.1 m_Mo_passes.1 ∈ zGW := z_in5 (List.mem_of_getElem? (i := 70) rfl) rfl
theorem cw_Lw_law_68 : zCw m_Lw_law m_Mo_passes 68 0 9 0 := ⟨Or.inl wm_Lw_68, wc_Mo_passes, wn_Mo, ⟨by decide, by decide, by decide +kernel⟩, ⟨by decide, by decide⟩, (fun _ => ⟨wj_Mo_passes, ws_Mo_passes, by decide, T_Mo, 52, rfl⟩), (fun q => by cases q), (fun q => by cases q)⟩
theorem wm_Lw_69 : Cond.methodLink "ScopeLinesLaw" 69 ⟨"ScopeLines", "length", "(I)I"⟩ ∈ zGW := z_in3 (List.mem_of_getElem? (i := 169) rfl) rfl
theorem wj_SL_length : Cond.instanceMethod ⟨"ScopeLines", "length", "(I)I"⟩ ∈ zGW := z_in3 (List.mem_of_getElem? (i := 170) rfl) rfl
theorem ws_SL_length : Cond.selects m_SL_length.1.cls m_SL_length.1 m_SL_length.1 ∈ zGW := z_in3 (List.mem_of_getElem? (i := 171) rfl) rfl
theorem cw_Lw_law_69 : zCw m_Lw_law m_SL_length 69 0 0 1 := ⟨Or.inl wm_Lw_69, wc_SL_length, wn_SL, ⟨by decide, by decide, by decide +kernel⟩, ⟨by decide, by decide⟩, (fun _ => ⟨wj_SL_length, ws_SL_length, by decide, T_SL, 10, rfl⟩), (fun q => by cases q), (fun q => by cases q)⟩
theorem wm_Lw_72 : Cond.methodLink "ScopeLinesLaw" 72 ⟨"ScopeLinesModel", "length", "(I)I"⟩ ∈ zGW := z_in5 (List.mem_of_getElem? (i := 72) rfl) rfl
theorem wj_Mo_length : Cond.instanceMethod ⟨"ScopeLinesModel", "length", "(I)I"⟩ ∈ zGW := z_in5 (List.mem_of_getElem? (i := 73) rfl) rfl
theorem ws_Mo_length : Cond.selects m_Mo_length.1.cls m_Mo_length.1 m_Mo_length.1 ∈ zGW := z_in5 (List.mem_of_getElem? (i := 74) rfl) rfl
theorem cw_Lw_law_72 : zCw m_Lw_law m_Mo_length 72 0 9 1 := ⟨Or.inl wm_Lw_72, wc_Mo_length, wn_Mo, ⟨by decide, by decide, by decide +kernel⟩, ⟨by decide, by decide⟩, (fun _ => ⟨wj_Mo_length, ws_Mo_length, by decide, T_Mo, 52, rfl⟩), (fun q => by cases q), (fun q => by cases q)⟩
theorem wm_Lw_73 : Cond.methodLink "ScopeLinesLaw" 73 ⟨"ScopeLines", "tokens", "(I)I"⟩ ∈ zGW := z_in3 (List.mem_of_getElem? (i := 173) rfl) rfl
theorem wj_SL_tokens : Cond.instanceMethod ⟨"ScopeLines", "tokens", "(I)I"⟩ ∈ zGW := z_in3 (List.mem_of_getElem? (i := 174) rfl) rfl
theorem ws_SL_tokens : Cond.selects m_SL_tokens.1.cls m_SL_tokens.1 m_SL_tokens.1 ∈ zGW := z_in3 (List.mem_of_getElem? (i := 175) rfl) rfl
theorem cw_Lw_law_73 : zCw m_Lw_law m_SL_tokens 73 0 0 1 := ⟨Or.inl wm_Lw_73, wc_SL_tokens, wn_SL, ⟨by decide, by decide, by decide +kernel⟩, ⟨by decide, by decide⟩, (fun _ => ⟨wj_SL_tokens, ws_SL_tokens, by decide, T_SL, 10, rfl⟩), (fun q => by cases q), (fun q => by cases q)⟩
theorem wm_Lw_76 : Cond.methodLink "ScopeLinesLaw" 76 ⟨"ScopeLinesModel", "tokens", "(I)I"⟩ ∈ zGW := z_in5 (List.mem_of_getElem? (i := 80) rfl) rfl
theorem wj_Mo_tokens : Cond.instanceMethod ⟨"ScopeLinesModel", "tokens", "(I)I"⟩ ∈ zGW := z_in5 (List.mem_of_getElem? (i := 81) rfl) rfl
theorem ws_Mo_tokens : Cond.selects m_Mo_tokens.1.cls m_Mo_tokens.1 m_Mo_tokens.1 ∈ zGW := z_in5 (List.mem_of_getElem? (i := 82) rfl) rfl
theorem cw_Lw_law_76 : zCw m_Lw_law m_Mo_tokens 76 0 9 1 := ⟨Or.inl wm_Lw_76, wc_Mo_tokens, wn_Mo, ⟨by decide, by decide, by decide +kernel⟩, ⟨by decide, by decide⟩, (fun _ => ⟨wj_Mo_tokens, ws_Mo_tokens, by decide, T_Mo, 52, rfl⟩), (fun q => by cases q), (fun q => by cases q)⟩
theorem wm_Lw_77 : Cond.methodLink "ScopeLinesLaw" 77 ⟨"ScopeLines", "token", "(III)I"⟩ ∈ zGW := z_in3 (List.mem_of_getElem? (i := 177) rfl) rfl
theorem wj_SL_token : Cond.instanceMethod ⟨"ScopeLines", "token", "(III)I"⟩ ∈ zGW := z_in3 (List.mem_of_getElem? (i := 178) rfl) rfl
theorem ws_SL_token : Cond.selects m_SL_token.1.cls m_SL_token.1 m_SL_token.1 ∈ zGW := z_in3 (List.mem_of_getElem? (i := 179) rfl) rfl
theorem cw_Lw_law_77 : zCw m_Lw_law m_SL_token 77 0 0 3 := ⟨Or.inl wm_Lw_77, wc_SL_token, wn_SL, ⟨by decide, by decide, by decide +kernel⟩, ⟨by decide, by decide⟩, (fun _ => ⟨wj_SL_token, ws_SL_token, by decide, T_SL, 10, rfl⟩), (fun q => by cases q), (fun q => by cases q)⟩
theorem wm_Lw_81 : Cond.methodLink "ScopeLinesLaw" 81 ⟨"ScopeLinesModel", "token", "(III)I"⟩ ∈ zGW := z_in5 (List.mem_of_getElem? (i := 84) rfl) rfl
theorem wj_Mo_token : Cond.instanceMethod ⟨"ScopeLinesModel", "token", "(III)I"⟩ ∈ zGW := z_in5 (List.mem_of_getElem? (i := 85) rfl) rfl
theorem ws_Mo_token : Cond.selects m_Mo_token.1.cls m_Mo_token.1 m_Mo_token.1 ∈ zGW := z_in5 (List.mem_of_getElem? (i := 86) rfl) rfl
theorem cw_Lw_law_81 : zCw m_Lw_law m_Mo_token 81 0 9 3 := ⟨Or.inl wm_Lw_81, wc_Mo_token, wn_Mo, ⟨by decide, by decide, by decide +kernel⟩, ⟨by decide, by decide⟩, (fun _ => ⟨wj_Mo_token, ws_Mo_token, by decide, T_Mo, 52, rfl⟩), (fun q => by cases q), (fun q => by cases q)⟩
theorem wm_Lw_82 : Cond.methodLink "ScopeLinesLaw" 82 ⟨"ScopeLines", "marked", "(I)Z"⟩ ∈ zGW := z_in3 (List.mem_of_getElem? (i := 201) rfl) rfl
theorem wj_SL_marked : Cond.instanceMethod ⟨"ScopeLines", "marked", "(I)Z"⟩ ∈ zGW := z_in3 (List.mem_of_getElem? (i := 202) rfl) rfl
theorem ws_SL_marked : Cond.selects m_SL_marked.1.cls m_SL_marked.1 m_SL_marked.1 ∈ zGW := z_in3 (List.mem_of_getElem? (i := 203) rfl) rfl
theorem cw_Lw_law_82 : zCw m_Lw_law m_SL_marked 82 0 0 1 := ⟨Or.inl wm_Lw_82, wc_SL_marked, wn_SL, ⟨by decide, by decide, by decide +kernel⟩, ⟨by decide, by decide⟩, (fun _ => ⟨wj_SL_marked, ws_SL_marked, by decide, T_SL, 10, rfl⟩), (fun q => by cases q), (fun q => by cases q)⟩
theorem wm_Lw_86 : Cond.methodLink "ScopeLinesLaw" 86 ⟨"ScopeLinesModel", "marked", "(I)Z"⟩ ∈ zGW := z_in5 (List.mem_of_getElem? (i := 96) rfl) rfl
theorem wj_Mo_marked : Cond.instanceMethod ⟨"ScopeLinesModel", "marked", "(I)Z"⟩ ∈ zGW := z_in5 (List.mem_of_getElem? (i := 97) rfl) rfl
theorem ws_Mo_marked : Cond.selects m_Mo_marked.1.cls m_Mo_marked.1 m_Mo_marked.1 ∈ zGW := z_in5 (List.mem_of_getElem? (i := 98) rfl) rfl
theorem cw_Lw_law_86 : zCw m_Lw_law m_Mo_marked 86 0 9 1 := ⟨Or.inl wm_Lw_86, wc_Mo_marked, wn_Mo, ⟨by decide, by decide, by decide +kernel⟩, ⟨by decide, by decide⟩, (fun _ => ⟨wj_Mo_marked, ws_Mo_marked, by decide, T_Mo, 52, rfl⟩), (fun q => by cases q), (fun q => by cases q)⟩
theorem wm_Lw_87 : Cond.methodLink "ScopeLinesLaw" 87 ⟨"ScopeLines", "state", "(II)I"⟩ ∈ zGW := z_in3 (List.mem_of_getElem? (i := 205) rfl) rfl
theorem wj_SL_state : Cond.instanceMethod ⟨"ScopeLines", "state", "(II)I"⟩ ∈ zGW := z_in3 (List.mem_of_getElem? (i := 206) rfl) rfl
theorem ws_SL_state : Cond.selects m_SL_state.1.cls m_SL_state.1 m_SL_state.1 ∈ zGW := z_in3 (List.mem_of_getElem? (i := 207) rfl) rfl
theorem cw_Lw_law_87 : zCw m_Lw_law m_SL_state 87 0 0 2 := ⟨Or.inl wm_Lw_87, wc_SL_state, wn_SL, ⟨by decide, by decide, by decide +kernel⟩, ⟨by decide, by decide⟩, (fun _ => ⟨wj_SL_state, ws_SL_state, by decide, T_SL, 10, rfl⟩), (fun q => by cases q), (fun q => by cases q)⟩
theorem wm_Lw_90 : Cond.methodLink "ScopeLinesLaw" 90 ⟨"ScopeLinesModel", "state", "(II)I"⟩ ∈ zGW := z_in5 (List.mem_of_getElem? (i := 100) rfl) rfl
theorem wj_Mo_state : Cond.instanceMethod ⟨"ScopeLinesModel", "state", "(II)I"⟩ ∈ zGW := z_in5 (List.mem_of_getElem? (i := 101) rfl) rfl
theorem ws_Mo_state : Cond.selects m_Mo_state.1.cls m_Mo_state.1 m_Mo_state.1 ∈ zGW := z_in5 (List.mem_of_getElem? (i := 102) rfl) rfl
theorem cw_Lw_law_90 : zCw m_Lw_law m_Mo_state 90 0 9 2 := ⟨Or.inl wm_Lw_90, wc_Mo_state, wn_Mo, ⟨by decide, by decide, by decide +kernel⟩, ⟨by decide, by decide⟩, (fun _ => ⟨wj_Mo_state, ws_Mo_state, by decide, T_Mo, 52, rfl⟩), (fun q => by cases q), (fun q => by cases q)⟩
theorem wm_Lw_91 : Cond.methodLink "ScopeLinesLaw" 91 ⟨"ScopeLines", "text", "(III)I"⟩ ∈ zGW := z_in3 (List.mem_of_getElem? (i := 213) rfl) rfl
theorem wj_SL_text : Cond.instanceMethod ⟨"ScopeLines", "text", "(III)I"⟩ ∈ zGW := z_in3 (List.mem_of_getElem? (i := 214) rfl) rfl
theorem ws_SL_text : Cond.selects m_SL_text.1.cls m_SL_text.1 m_SL_text.1 ∈ zGW := z_in3 (List.mem_of_getElem? (i := 215) rfl) rfl
theorem cw_Lw_law_91 : zCw m_Lw_law m_SL_text 91 0 0 3 := ⟨Or.inl wm_Lw_91, wc_SL_text, wn_SL, ⟨by decide, by decide, by decide +kernel⟩, ⟨by decide, by decide⟩, (fun _ => ⟨wj_SL_text, ws_SL_text, by decide, T_SL, 10, rfl⟩), (fun q => by cases q), (fun q => by cases q)⟩
theorem wm_Lw_94 : Cond.methodLink "ScopeLinesLaw" 94 ⟨"ScopeLinesModel", "text", "(III)I"⟩ ∈ zGW := z_in5 (List.mem_of_getElem? (i := 104) rfl) rfl
theorem wj_Mo_text : Cond.instanceMethod ⟨"ScopeLinesModel", "text", "(III)I"⟩ ∈ zGW := z_in5 (List.mem_of_getElem? (i := 105) rfl) rfl
theorem ws_Mo_text : Cond.selects m_Mo_text.1.cls m_Mo_text.1 m_Mo_text.1 ∈ zGW := z_in5 (List.mem_of_getElem? (i := 106) rfl) rfl
theorem cw_Lw_law_94 : zCw m_Lw_law m_Mo_text 94 0 9 3 := ⟨Or.inl wm_Lw_94, wc_Mo_text, wn_Mo, ⟨by decide, by decide, by decide +kernel⟩, ⟨by decide, by decide⟩, (fun _ => ⟨wj_Mo_text, ws_Mo_text, by decide, T_Mo, 52, rfl⟩), (fun q => by cases q), (fun q => by cases q)⟩
theorem wm_Lw_95 : Cond.methodLink "ScopeLinesLaw" 95 ⟨"ScopeLines", "find", "(IIII)I"⟩ ∈ zGW := z_in3 (List.mem_of_getElem? (i := 218) rfl) rfl
theorem wj_SL_find : Cond.instanceMethod ⟨"ScopeLines", "find", "(IIII)I"⟩ ∈ zGW := z_in3 (List.mem_of_getElem? (i := 219) rfl) rfl
theorem ws_SL_find : Cond.selects m_SL_find.1.cls m_SL_find.1 m_SL_find.1 ∈ zGW := z_in3 (List.mem_of_getElem? (i := 220) rfl) rfl
theorem cw_Lw_law_95 : zCw m_Lw_law m_SL_find 95 0 0 4 := ⟨Or.inl wm_Lw_95, wc_SL_find, wn_SL, ⟨by decide, by decide, by decide +kernel⟩, ⟨by decide, by decide⟩, (fun _ => ⟨wj_SL_find, ws_SL_find, by decide, T_SL, 10, rfl⟩), (fun q => by cases q), (fun q => by cases q)⟩
theorem wm_Lw_99 : Cond.methodLink "ScopeLinesLaw" 99 ⟨"ScopeLinesModel", "find", "(IIII)I"⟩ ∈ zGW := z_in5 (List.mem_of_getElem? (i := 108) rfl) rfl
theorem wj_Mo_find : Cond.instanceMethod ⟨"ScopeLinesModel", "find", "(IIII)I"⟩ ∈ zGW := z_in5 (List.mem_of_getElem? (i := 109) rfl) rfl
theorem ws_Mo_find : Cond.selects m_Mo_find.1.cls m_Mo_find.1 m_Mo_find.1 ∈ zGW := z_in5 (List.mem_of_getElem? (i := 110) rfl) rfl
theorem cw_Lw_law_99 : zCw m_Lw_law m_Mo_find 99 0 9 4 := ⟨Or.inl wm_Lw_99, wc_Mo_find, wn_Mo, ⟨by decide, by decide, by decide +kernel⟩, ⟨by decide, by decide⟩, (fun _ => ⟨wj_Mo_find, ws_Mo_find, by decide, T_Mo, 52, rfl⟩), (fun q => by cases q), (fun q => by cases q)⟩
theorem w_obj2 : Cond.code ⟨"java/lang/Object", "<init>", "()V"⟩ object_method_1_code 1 (Option.none : Option FieldType) ∈ zGW := z_in1 (List.mem_of_getElem? (i := 21) rfl) rfl
end
