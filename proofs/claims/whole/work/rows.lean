section
-- ===== PART A: goes FIRST, ahead of the names: the tables' words, and 'selects' of the private methods out of them =====
/-- a private method of a class that the tables say can be made, by its rows of tables_1 -/
def lw_okq (q : MethodName × Nat) : Prop := (q.1.cls ≠ "java/lang/invoke/MethodHandle" ∧ q.1.cls ≠ "java/lang/invoke/VarHandle") ∧ Cond.instantiable q.1.cls q.2 ∈ tables_1 ∧ Cond.privateMethod q.1 ∈ tables_1 ∧ Cond.instanceMethod q.1 ∈ tables_1
theorem lw_p0 : lw_okq (⟨"ScopeLines$Parser", "hasBlank", "()Z"⟩, 15) := ⟨⟨by decide +kernel, by decide +kernel⟩, List.mem_of_getElem? (i := 23) (by decide +kernel), List.mem_of_getElem? (i := 396) (by decide +kernel), List.mem_of_getElem? (i := 397) (by decide +kernel)⟩
theorem lw_p1 : lw_okq (⟨"ScopeLines$Parser", "openLevel", "(I)V"⟩, 15) := ⟨⟨by decide +kernel, by decide +kernel⟩, List.mem_of_getElem? (i := 23) (by decide +kernel), List.mem_of_getElem? (i := 404) (by decide +kernel), List.mem_of_getElem? (i := 405) (by decide +kernel)⟩
theorem lw_p2 : lw_okq (⟨"ScopeLines$Parser", "readNext", "(LScopeLines$Pattern;)V"⟩, 15) := ⟨⟨by decide +kernel, by decide +kernel⟩, List.mem_of_getElem? (i := 23) (by decide +kernel), List.mem_of_getElem? (i := 408) (by decide +kernel), List.mem_of_getElem? (i := 409) (by decide +kernel)⟩
theorem lw_p3 : lw_okq (⟨"ScopeLines$Parser", "endBranch", "(LScopeLines$Pattern;)V"⟩, 15) := ⟨⟨by decide +kernel, by decide +kernel⟩, List.mem_of_getElem? (i := 23) (by decide +kernel), List.mem_of_getElem? (i := 412) (by decide +kernel), List.mem_of_getElem? (i := 413) (by decide +kernel)⟩
theorem lw_p4 : lw_okq (⟨"ScopeLines$Parser", "openGroup", "(LScopeLines$Pattern;)V"⟩, 15) := ⟨⟨by decide +kernel, by decide +kernel⟩, List.mem_of_getElem? (i := 23) (by decide +kernel), List.mem_of_getElem? (i := 428) (by decide +kernel), List.mem_of_getElem? (i := 429) (by decide +kernel)⟩
theorem lw_p5 : lw_okq (⟨"ScopeLines$Parser", "closeGroup", "(LScopeLines$Pattern;)V"⟩, 15) := ⟨⟨by decide +kernel, by decide +kernel⟩, List.mem_of_getElem? (i := 23) (by decide +kernel), List.mem_of_getElem? (i := 433) (by decide +kernel), List.mem_of_getElem? (i := 434) (by decide +kernel)⟩
theorem lw_p6 : lw_okq (⟨"ScopeLines$Parser", "closeLevel", "(LScopeLines$Pattern;)Z"⟩, 15) := ⟨⟨by decide +kernel, by decide +kernel⟩, List.mem_of_getElem? (i := 23) (by decide +kernel), List.mem_of_getElem? (i := 437) (by decide +kernel), List.mem_of_getElem? (i := 438) (by decide +kernel)⟩
theorem lw_p7 : lw_okq (⟨"ScopeLines$Parser", "readQuantifier", "(IZLScopeLines$Pattern;)V"⟩, 15) := ⟨⟨by decide +kernel, by decide +kernel⟩, List.mem_of_getElem? (i := 23) (by decide +kernel), List.mem_of_getElem? (i := 445) (by decide +kernel), List.mem_of_getElem? (i := 446) (by decide +kernel)⟩
theorem lw_p8 : lw_okq (⟨"ScopeLines$Pattern", "insertSplit", "(IIIZ)V"⟩, 7) := ⟨⟨by decide +kernel, by decide +kernel⟩, List.mem_of_getElem? (i := 197) (by decide +kernel), List.mem_of_getElem? (i := 453) (by decide +kernel), List.mem_of_getElem? (i := 454) (by decide +kernel)⟩
theorem lw_p9 : lw_okq (⟨"ScopeLines$Parser", "readAtom", "(CLScopeLines$Pattern;)Z"⟩, 15) := ⟨⟨by decide +kernel, by decide +kernel⟩, List.mem_of_getElem? (i := 23) (by decide +kernel), List.mem_of_getElem? (i := 457) (by decide +kernel), List.mem_of_getElem? (i := 458) (by decide +kernel)⟩
theorem lw_p10 : lw_okq (⟨"ScopeLines$Parser", "readSet", "(LScopeLines$Pattern;)V"⟩, 15) := ⟨⟨by decide +kernel, by decide +kernel⟩, List.mem_of_getElem? (i := 23) (by decide +kernel), List.mem_of_getElem? (i := 461) (by decide +kernel), List.mem_of_getElem? (i := 462) (by decide +kernel)⟩
theorem lw_p11 : lw_okq (⟨"ScopeLines$Parser", "readItem", "()V"⟩, 15) := ⟨⟨by decide +kernel, by decide +kernel⟩, List.mem_of_getElem? (i := 23) (by decide +kernel), List.mem_of_getElem? (i := 465) (by decide +kernel), List.mem_of_getElem? (i := 466) (by decide +kernel)⟩
theorem lw_p12 : lw_okq (⟨"ScopeLines$Parser", "readEscape", "(LScopeLines$Pattern;)Z"⟩, 15) := ⟨⟨by decide +kernel, by decide +kernel⟩, List.mem_of_getElem? (i := 23) (by decide +kernel), List.mem_of_getElem? (i := 474) (by decide +kernel), List.mem_of_getElem? (i := 475) (by decide +kernel)⟩
theorem lw_p13 : lw_okq (⟨"ScopeLines", "addRule", "(IIZ)I"⟩, 10) := ⟨⟨by decide +kernel, by decide +kernel⟩, List.mem_of_getElem? (i := 15) (by decide +kernel), List.mem_of_getElem? (i := 478) (by decide +kernel), List.mem_of_getElem? (i := 479) (by decide +kernel)⟩
theorem lw_p14 : lw_okq (⟨"ScopeLines", "tokenizeFrom", "(IZ)I"⟩, 10) := ⟨⟨by decide +kernel, by decide +kernel⟩, List.mem_of_getElem? (i := 15) (by decide +kernel), List.mem_of_getElem? (i := 487) (by decide +kernel), List.mem_of_getElem? (i := 488) (by decide +kernel)⟩
theorem lw_p15 : lw_okq (⟨"ScopeLines$Grammar", "findWinner", "(LScopeLines$Line;I)Z"⟩, 10) := ⟨⟨by decide +kernel, by decide +kernel⟩, List.mem_of_getElem? (i := 124) (by decide +kernel), List.mem_of_getElem? (i := 501) (by decide +kernel), List.mem_of_getElem? (i := 502) (by decide +kernel)⟩
def lw_privs_1 : List (MethodName × Nat) := [(⟨"ScopeLines$Parser", "hasBlank", "()Z"⟩, 15), (⟨"ScopeLines$Parser", "openLevel", "(I)V"⟩, 15), (⟨"ScopeLines$Parser", "readNext", "(LScopeLines$Pattern;)V"⟩, 15), (⟨"ScopeLines$Parser", "endBranch", "(LScopeLines$Pattern;)V"⟩, 15), (⟨"ScopeLines$Parser", "openGroup", "(LScopeLines$Pattern;)V"⟩, 15), (⟨"ScopeLines$Parser", "closeGroup", "(LScopeLines$Pattern;)V"⟩, 15), (⟨"ScopeLines$Parser", "closeLevel", "(LScopeLines$Pattern;)Z"⟩, 15), (⟨"ScopeLines$Parser", "readQuantifier", "(IZLScopeLines$Pattern;)V"⟩, 15), (⟨"ScopeLines$Pattern", "insertSplit", "(IIIZ)V"⟩, 7), (⟨"ScopeLines$Parser", "readAtom", "(CLScopeLines$Pattern;)Z"⟩, 15), (⟨"ScopeLines$Parser", "readSet", "(LScopeLines$Pattern;)V"⟩, 15), (⟨"ScopeLines$Parser", "readItem", "()V"⟩, 15), (⟨"ScopeLines$Parser", "readEscape", "(LScopeLines$Pattern;)Z"⟩, 15), (⟨"ScopeLines", "addRule", "(IIZ)I"⟩, 10), (⟨"ScopeLines", "tokenizeFrom", "(IZ)I"⟩, 10), (⟨"ScopeLines$Grammar", "findWinner", "(LScopeLines$Line;I)Z"⟩, 10)]
theorem lw_r1 : ∀ q ∈ lw_privs_1, lw_okq q := List.forall_mem_cons.mpr ⟨lw_p0, List.forall_mem_cons.mpr ⟨lw_p1, List.forall_mem_cons.mpr ⟨lw_p2, List.forall_mem_cons.mpr ⟨lw_p3, List.forall_mem_cons.mpr ⟨lw_p4, List.forall_mem_cons.mpr ⟨lw_p5, List.forall_mem_cons.mpr ⟨lw_p6, List.forall_mem_cons.mpr ⟨lw_p7, List.forall_mem_cons.mpr ⟨lw_p8, List.forall_mem_cons.mpr ⟨lw_p9, List.forall_mem_cons.mpr ⟨lw_p10, List.forall_mem_cons.mpr ⟨lw_p11, List.forall_mem_cons.mpr ⟨lw_p12, List.forall_mem_cons.mpr ⟨lw_p13, List.forall_mem_cons.mpr ⟨lw_p14, List.forall_mem_cons.mpr ⟨lw_p15, fun _ h => absurd h List.not_mem_nil⟩⟩⟩⟩⟩⟩⟩⟩⟩⟩⟩⟩⟩⟩⟩⟩
theorem lw_p16 : lw_okq (⟨"ScopeLines$Grammar", "listCandidates", "()V"⟩, 10) := ⟨⟨by decide +kernel, by decide +kernel⟩, List.mem_of_getElem? (i := 124) (by decide +kernel), List.mem_of_getElem? (i := 509) (by decide +kernel), List.mem_of_getElem? (i := 510) (by decide +kernel)⟩
theorem lw_p17 : lw_okq (⟨"ScopeLines$Grammar", "listRulesOf", "(I)V"⟩, 10) := ⟨⟨by decide +kernel, by decide +kernel⟩, List.mem_of_getElem? (i := 124) (by decide +kernel), List.mem_of_getElem? (i := 513) (by decide +kernel), List.mem_of_getElem? (i := 514) (by decide +kernel)⟩
theorem lw_p18 : lw_okq (⟨"ScopeLines$Search", "doNext", "(LScopeLines$Pattern;LScopeLines$Line;LScopeLines$State;)Z"⟩, 12) := ⟨⟨by decide +kernel, by decide +kernel⟩, List.mem_of_getElem? (i := 140) (by decide +kernel), List.mem_of_getElem? (i := 524) (by decide +kernel), List.mem_of_getElem? (i := 525) (by decide +kernel)⟩
theorem lw_p19 : lw_okq (⟨"ScopeLines$Search", "leaveWaiting", "(II)V"⟩, 12) := ⟨⟨by decide +kernel, by decide +kernel⟩, List.mem_of_getElem? (i := 140) (by decide +kernel), List.mem_of_getElem? (i := 528) (by decide +kernel), List.mem_of_getElem? (i := 529) (by decide +kernel)⟩
theorem lw_p20 : lw_okq (⟨"ScopeLines$Search", "fitsText", "(LScopeLines$Line;LScopeLines$State;I)Z"⟩, 12) := ⟨⟨by decide +kernel, by decide +kernel⟩, List.mem_of_getElem? (i := 140) (by decide +kernel), List.mem_of_getElem? (i := 532) (by decide +kernel), List.mem_of_getElem? (i := 533) (by decide +kernel)⟩
theorem lw_p21 : lw_okq (⟨"ScopeLines$Search", "makeStep", "()Z"⟩, 12) := ⟨⟨by decide +kernel, by decide +kernel⟩, List.mem_of_getElem? (i := 140) (by decide +kernel), List.mem_of_getElem? (i := 540) (by decide +kernel), List.mem_of_getElem? (i := 541) (by decide +kernel)⟩
theorem lw_p22 : lw_okq (⟨"ScopeLines$Search", "fitsAtom", "(LScopeLines$Pattern;LScopeLines$Line;I)Z"⟩, 12) := ⟨⟨by decide +kernel, by decide +kernel⟩, List.mem_of_getElem? (i := 140) (by decide +kernel), List.mem_of_getElem? (i := 548) (by decide +kernel), List.mem_of_getElem? (i := 549) (by decide +kernel)⟩
theorem lw_p23 : lw_okq (⟨"ScopeLines$Search", "goBack", "()Z"⟩, 12) := ⟨⟨by decide +kernel, by decide +kernel⟩, List.mem_of_getElem? (i := 140) (by decide +kernel), List.mem_of_getElem? (i := 556) (by decide +kernel), List.mem_of_getElem? (i := 557) (by decide +kernel)⟩
theorem lw_p24 : lw_okq (⟨"ScopeLines$Grammar", "keepWinner", "(I)V"⟩, 10) := ⟨⟨by decide +kernel, by decide +kernel⟩, List.mem_of_getElem? (i := 124) (by decide +kernel), List.mem_of_getElem? (i := 560) (by decide +kernel), List.mem_of_getElem? (i := 561) (by decide +kernel)⟩
theorem lw_p25 : lw_okq (⟨"ScopeLines$Grammar", "mark", "(LScopeLines$Line;LScopeLines$State;)V"⟩, 10) := ⟨⟨by decide +kernel, by decide +kernel⟩, List.mem_of_getElem? (i := 124) (by decide +kernel), List.mem_of_getElem? (i := 565) (by decide +kernel), List.mem_of_getElem? (i := 566) (by decide +kernel)⟩
theorem lw_p26 : lw_okq (⟨"ScopeLines$Grammar", "cut", "(LScopeLines$Line;II)Z"⟩, 10) := ⟨⟨by decide +kernel, by decide +kernel⟩, List.mem_of_getElem? (i := 124) (by decide +kernel), List.mem_of_getElem? (i := 569) (by decide +kernel), List.mem_of_getElem? (i := 570) (by decide +kernel)⟩
theorem lw_p27 : lw_okq (⟨"ScopeLines$Grammar", "isLast", "(I)Z"⟩, 10) := ⟨⟨by decide +kernel, by decide +kernel⟩, List.mem_of_getElem? (i := 124) (by decide +kernel), List.mem_of_getElem? (i := 581) (by decide +kernel), List.mem_of_getElem? (i := 582) (by decide +kernel)⟩
theorem lw_p28 : lw_okq (⟨"ScopeLines$Grammar", "takeWinner", "(LScopeLines$Line;)V"⟩, 10) := ⟨⟨by decide +kernel, by decide +kernel⟩, List.mem_of_getElem? (i := 124) (by decide +kernel), List.mem_of_getElem? (i := 585) (by decide +kernel), List.mem_of_getElem? (i := 586) (by decide +kernel)⟩
theorem lw_p29 : lw_okq (⟨"ScopeLines$State", "isSameText", "(LScopeLines$State;I)Z"⟩, 4) := ⟨⟨by decide +kernel, by decide +kernel⟩, List.mem_of_getElem? (i := 100) (by decide +kernel), List.mem_of_getElem? (i := 601) (by decide +kernel), List.mem_of_getElem? (i := 602) (by decide +kernel)⟩
theorem lw_p30 : lw_okq (⟨"ScopeLines", "firstBlank", "()I"⟩, 10) := ⟨⟨by decide +kernel, by decide +kernel⟩, List.mem_of_getElem? (i := 15) (by decide +kernel), List.mem_of_getElem? (i := 609) (by decide +kernel), List.mem_of_getElem? (i := 610) (by decide +kernel)⟩
theorem lw_p31 : lw_okq (⟨"ScopeLines", "isLine", "(I)Z"⟩, 10) := ⟨⟨by decide +kernel, by decide +kernel⟩, List.mem_of_getElem? (i := 15) (by decide +kernel), List.mem_of_getElem? (i := 638) (by decide +kernel), List.mem_of_getElem? (i := 639) (by decide +kernel)⟩
def lw_privs_2 : List (MethodName × Nat) := [(⟨"ScopeLines$Grammar", "listCandidates", "()V"⟩, 10), (⟨"ScopeLines$Grammar", "listRulesOf", "(I)V"⟩, 10), (⟨"ScopeLines$Search", "doNext", "(LScopeLines$Pattern;LScopeLines$Line;LScopeLines$State;)Z"⟩, 12), (⟨"ScopeLines$Search", "leaveWaiting", "(II)V"⟩, 12), (⟨"ScopeLines$Search", "fitsText", "(LScopeLines$Line;LScopeLines$State;I)Z"⟩, 12), (⟨"ScopeLines$Search", "makeStep", "()Z"⟩, 12), (⟨"ScopeLines$Search", "fitsAtom", "(LScopeLines$Pattern;LScopeLines$Line;I)Z"⟩, 12), (⟨"ScopeLines$Search", "goBack", "()Z"⟩, 12), (⟨"ScopeLines$Grammar", "keepWinner", "(I)V"⟩, 10), (⟨"ScopeLines$Grammar", "mark", "(LScopeLines$Line;LScopeLines$State;)V"⟩, 10), (⟨"ScopeLines$Grammar", "cut", "(LScopeLines$Line;II)Z"⟩, 10), (⟨"ScopeLines$Grammar", "isLast", "(I)Z"⟩, 10), (⟨"ScopeLines$Grammar", "takeWinner", "(LScopeLines$Line;)V"⟩, 10), (⟨"ScopeLines$State", "isSameText", "(LScopeLines$State;I)Z"⟩, 4), (⟨"ScopeLines", "firstBlank", "()I"⟩, 10), (⟨"ScopeLines", "isLine", "(I)Z"⟩, 10)]
theorem lw_r2 : ∀ q ∈ lw_privs_2, lw_okq q := List.forall_mem_cons.mpr ⟨lw_p16, List.forall_mem_cons.mpr ⟨lw_p17, List.forall_mem_cons.mpr ⟨lw_p18, List.forall_mem_cons.mpr ⟨lw_p19, List.forall_mem_cons.mpr ⟨lw_p20, List.forall_mem_cons.mpr ⟨lw_p21, List.forall_mem_cons.mpr ⟨lw_p22, List.forall_mem_cons.mpr ⟨lw_p23, List.forall_mem_cons.mpr ⟨lw_p24, List.forall_mem_cons.mpr ⟨lw_p25, List.forall_mem_cons.mpr ⟨lw_p26, List.forall_mem_cons.mpr ⟨lw_p27, List.forall_mem_cons.mpr ⟨lw_p28, List.forall_mem_cons.mpr ⟨lw_p29, List.forall_mem_cons.mpr ⟨lw_p30, List.forall_mem_cons.mpr ⟨lw_p31, fun _ h => absurd h List.not_mem_nil⟩⟩⟩⟩⟩⟩⟩⟩⟩⟩⟩⟩⟩⟩⟩⟩
theorem lw_p32 : lw_okq (⟨"ScopeLines$Palette", "entryFor", "(LScopeLines$Line;II)I"⟩, 4) := ⟨⟨by decide +kernel, by decide +kernel⟩, List.mem_of_getElem? (i := 80) (by decide +kernel), List.mem_of_getElem? (i := 674) (by decide +kernel), List.mem_of_getElem? (i := 675) (by decide +kernel)⟩
theorem lw_p33 : lw_okq (⟨"ScopeLinesModel", "isRangeNumber", "(I)Z"⟩, 52) := ⟨⟨by decide +kernel, by decide +kernel⟩, List.mem_of_getElem? (i := 707) (by decide +kernel), List.mem_of_getElem? (i := 882) (by decide +kernel), List.mem_of_getElem? (i := 883) (by decide +kernel)⟩
theorem lw_p34 : lw_okq (⟨"ScopeLinesModel", "isPattern", "(IIZ)Z"⟩, 52) := ⟨⟨by decide +kernel, by decide +kernel⟩, List.mem_of_getElem? (i := 707) (by decide +kernel), List.mem_of_getElem? (i := 886) (by decide +kernel), List.mem_of_getElem? (i := 887) (by decide +kernel)⟩
theorem lw_p35 : lw_okq (⟨"ScopeLinesModel", "lift", "(III)V"⟩, 52) := ⟨⟨by decide +kernel, by decide +kernel⟩, List.mem_of_getElem? (i := 707) (by decide +kernel), List.mem_of_getElem? (i := 890) (by decide +kernel), List.mem_of_getElem? (i := 891) (by decide +kernel)⟩
theorem lw_p36 : lw_okq (⟨"ScopeLinesModel", "parse", "(IZ)Z"⟩, 52) := ⟨⟨by decide +kernel, by decide +kernel⟩, List.mem_of_getElem? (i := 707) (by decide +kernel), List.mem_of_getElem? (i := 894) (by decide +kernel), List.mem_of_getElem? (i := 895) (by decide +kernel)⟩
theorem lw_p37 : lw_okq (⟨"ScopeLinesModel", "at", "(II)I"⟩, 52) := ⟨⟨by decide +kernel, by decide +kernel⟩, List.mem_of_getElem? (i := 707) (by decide +kernel), List.mem_of_getElem? (i := 898) (by decide +kernel), List.mem_of_getElem? (i := 899) (by decide +kernel)⟩
theorem lw_p38 : lw_okq (⟨"ScopeLinesModel", "openLevel", "(II)V"⟩, 52) := ⟨⟨by decide +kernel, by decide +kernel⟩, List.mem_of_getElem? (i := 707) (by decide +kernel), List.mem_of_getElem? (i := 902) (by decide +kernel), List.mem_of_getElem? (i := 903) (by decide +kernel)⟩
theorem lw_p39 : lw_okq (⟨"ScopeLinesModel", "note", "(III)V"⟩, 52) := ⟨⟨by decide +kernel, by decide +kernel⟩, List.mem_of_getElem? (i := 707) (by decide +kernel), List.mem_of_getElem? (i := 906) (by decide +kernel), List.mem_of_getElem? (i := 907) (by decide +kernel)⟩
theorem lw_p40 : lw_okq (⟨"ScopeLinesModel", "quantified", "(IIIZI)I"⟩, 52) := ⟨⟨by decide +kernel, by decide +kernel⟩, List.mem_of_getElem? (i := 707) (by decide +kernel), List.mem_of_getElem? (i := 910) (by decide +kernel), List.mem_of_getElem? (i := 911) (by decide +kernel)⟩
theorem lw_p41 : lw_okq (⟨"ScopeLinesModel", "isRef", "(II)Z"⟩, 52) := ⟨⟨by decide +kernel, by decide +kernel⟩, List.mem_of_getElem? (i := 707) (by decide +kernel), List.mem_of_getElem? (i := 914) (by decide +kernel), List.mem_of_getElem? (i := 915) (by decide +kernel)⟩
theorem lw_p42 : lw_okq (⟨"ScopeLinesModel", "simple", "(IIZ)I"⟩, 52) := ⟨⟨by decide +kernel, by decide +kernel⟩, List.mem_of_getElem? (i := 707) (by decide +kernel), List.mem_of_getElem? (i := 918) (by decide +kernel), List.mem_of_getElem? (i := 919) (by decide +kernel)⟩
theorem lw_p43 : lw_okq (⟨"ScopeLinesModel", "items", "(II)I"⟩, 52) := ⟨⟨by decide +kernel, by decide +kernel⟩, List.mem_of_getElem? (i := 707) (by decide +kernel), List.mem_of_getElem? (i := 922) (by decide +kernel), List.mem_of_getElem? (i := 923) (by decide +kernel)⟩
theorem lw_p44 : lw_okq (⟨"ScopeLinesModel", "make", "(IIZI)I"⟩, 52) := ⟨⟨by decide +kernel, by decide +kernel⟩, List.mem_of_getElem? (i := 707) (by decide +kernel), List.mem_of_getElem? (i := 929) (by decide +kernel), List.mem_of_getElem? (i := 930) (by decide +kernel)⟩
theorem lw_p45 : lw_okq (⟨"ScopeLinesModel", "refreshAll", "()V"⟩, 52) := ⟨⟨by decide +kernel, by decide +kernel⟩, List.mem_of_getElem? (i := 707) (by decide +kernel), List.mem_of_getElem? (i := 933) (by decide +kernel), List.mem_of_getElem? (i := 934) (by decide +kernel)⟩
theorem lw_p46 : lw_okq (⟨"ScopeLinesModel", "tokenize", "(I)V"⟩, 52) := ⟨⟨by decide +kernel, by decide +kernel⟩, List.mem_of_getElem? (i := 707) (by decide +kernel), List.mem_of_getElem? (i := 937) (by decide +kernel), List.mem_of_getElem? (i := 938) (by decide +kernel)⟩
theorem lw_p47 : lw_okq (⟨"ScopeLinesModel", "begin", "(I)V"⟩, 52) := ⟨⟨by decide +kernel, by decide +kernel⟩, List.mem_of_getElem? (i := 707) (by decide +kernel), List.mem_of_getElem? (i := 941) (by decide +kernel), List.mem_of_getElem? (i := 942) (by decide +kernel)⟩
def lw_privs_3 : List (MethodName × Nat) := [(⟨"ScopeLines$Palette", "entryFor", "(LScopeLines$Line;II)I"⟩, 4), (⟨"ScopeLinesModel", "isRangeNumber", "(I)Z"⟩, 52), (⟨"ScopeLinesModel", "isPattern", "(IIZ)Z"⟩, 52), (⟨"ScopeLinesModel", "lift", "(III)V"⟩, 52), (⟨"ScopeLinesModel", "parse", "(IZ)Z"⟩, 52), (⟨"ScopeLinesModel", "at", "(II)I"⟩, 52), (⟨"ScopeLinesModel", "openLevel", "(II)V"⟩, 52), (⟨"ScopeLinesModel", "note", "(III)V"⟩, 52), (⟨"ScopeLinesModel", "quantified", "(IIIZI)I"⟩, 52), (⟨"ScopeLinesModel", "isRef", "(II)Z"⟩, 52), (⟨"ScopeLinesModel", "simple", "(IIZ)I"⟩, 52), (⟨"ScopeLinesModel", "items", "(II)I"⟩, 52), (⟨"ScopeLinesModel", "make", "(IIZI)I"⟩, 52), (⟨"ScopeLinesModel", "refreshAll", "()V"⟩, 52), (⟨"ScopeLinesModel", "tokenize", "(I)V"⟩, 52), (⟨"ScopeLinesModel", "begin", "(I)V"⟩, 52)]
theorem lw_r3 : ∀ q ∈ lw_privs_3, lw_okq q := List.forall_mem_cons.mpr ⟨lw_p32, List.forall_mem_cons.mpr ⟨lw_p33, List.forall_mem_cons.mpr ⟨lw_p34, List.forall_mem_cons.mpr ⟨lw_p35, List.forall_mem_cons.mpr ⟨lw_p36, List.forall_mem_cons.mpr ⟨lw_p37, List.forall_mem_cons.mpr ⟨lw_p38, List.forall_mem_cons.mpr ⟨lw_p39, List.forall_mem_cons.mpr ⟨lw_p40, List.forall_mem_cons.mpr ⟨lw_p41, List.forall_mem_cons.mpr ⟨lw_p42, List.forall_mem_cons.mpr ⟨lw_p43, List.forall_mem_cons.mpr ⟨lw_p44, List.forall_mem_cons.mpr ⟨lw_p45, List.forall_mem_cons.mpr ⟨lw_p46, List.forall_mem_cons.mpr ⟨lw_p47, fun _ h => absurd h List.not_mem_nil⟩⟩⟩⟩⟩⟩⟩⟩⟩⟩⟩⟩⟩⟩⟩⟩
theorem lw_p48 : lw_okq (⟨"ScopeLinesModel", "copyState", "(II)V"⟩, 52) := ⟨⟨by decide +kernel, by decide +kernel⟩, List.mem_of_getElem? (i := 707) (by decide +kernel), List.mem_of_getElem? (i := 945) (by decide +kernel), List.mem_of_getElem? (i := 946) (by decide +kernel)⟩
theorem lw_p49 : lw_okq (⟨"ScopeLinesModel", "findBest", "(II)Z"⟩, 52) := ⟨⟨by decide +kernel, by decide +kernel⟩, List.mem_of_getElem? (i := 707) (by decide +kernel), List.mem_of_getElem? (i := 949) (by decide +kernel), List.mem_of_getElem? (i := 950) (by decide +kernel)⟩
theorem lw_p50 : lw_okq (⟨"ScopeLinesModel", "gather", "()I"⟩, 52) := ⟨⟨by decide +kernel, by decide +kernel⟩, List.mem_of_getElem? (i := 707) (by decide +kernel), List.mem_of_getElem? (i := 953) (by decide +kernel), List.mem_of_getElem? (i := 954) (by decide +kernel)⟩
theorem lw_p51 : lw_okq (⟨"ScopeLinesModel", "addRules", "(II)I"⟩, 52) := ⟨⟨by decide +kernel, by decide +kernel⟩, List.mem_of_getElem? (i := 707) (by decide +kernel), List.mem_of_getElem? (i := 957) (by decide +kernel), List.mem_of_getElem? (i := 958) (by decide +kernel)⟩
theorem lw_p52 : lw_okq (⟨"ScopeLinesModel", "search", "(III)V"⟩, 52) := ⟨⟨by decide +kernel, by decide +kernel⟩, List.mem_of_getElem? (i := 707) (by decide +kernel), List.mem_of_getElem? (i := 961) (by decide +kernel), List.mem_of_getElem? (i := 962) (by decide +kernel)⟩
theorem lw_p53 : lw_okq (⟨"ScopeLinesModel", "match", "(III)V"⟩, 52) := ⟨⟨by decide +kernel, by decide +kernel⟩, List.mem_of_getElem? (i := 707) (by decide +kernel), List.mem_of_getElem? (i := 965) (by decide +kernel), List.mem_of_getElem? (i := 966) (by decide +kernel)⟩
theorem lw_p54 : lw_okq (⟨"ScopeLinesModel", "push", "(III)V"⟩, 52) := ⟨⟨by decide +kernel, by decide +kernel⟩, List.mem_of_getElem? (i := 707) (by decide +kernel), List.mem_of_getElem? (i := 969) (by decide +kernel), List.mem_of_getElem? (i := 970) (by decide +kernel)⟩
theorem lw_p55 : lw_okq (⟨"ScopeLinesModel", "ended", "(II)Z"⟩, 52) := ⟨⟨by decide +kernel, by decide +kernel⟩, List.mem_of_getElem? (i := 707) (by decide +kernel), List.mem_of_getElem? (i := 973) (by decide +kernel), List.mem_of_getElem? (i := 974) (by decide +kernel)⟩
theorem lw_p56 : lw_okq (⟨"ScopeLinesModel", "fits", "(IIII)I"⟩, 52) := ⟨⟨by decide +kernel, by decide +kernel⟩, List.mem_of_getElem? (i := 707) (by decide +kernel), List.mem_of_getElem? (i := 977) (by decide +kernel), List.mem_of_getElem? (i := 978) (by decide +kernel)⟩
theorem lw_p57 : lw_okq (⟨"ScopeLinesModel", "step", "()Z"⟩, 52) := ⟨⟨by decide +kernel, by decide +kernel⟩, List.mem_of_getElem? (i := 707) (by decide +kernel), List.mem_of_getElem? (i := 981) (by decide +kernel), List.mem_of_getElem? (i := 982) (by decide +kernel)⟩
theorem lw_p58 : lw_okq (⟨"ScopeLinesModel", "inItems", "(III)Z"⟩, 52) := ⟨⟨by decide +kernel, by decide +kernel⟩, List.mem_of_getElem? (i := 707) (by decide +kernel), List.mem_of_getElem? (i := 985) (by decide +kernel), List.mem_of_getElem? (i := 986) (by decide +kernel)⟩
theorem lw_p59 : lw_okq (⟨"ScopeLinesModel", "cutOff", "(IIII)V"⟩, 52) := ⟨⟨by decide +kernel, by decide +kernel⟩, List.mem_of_getElem? (i := 707) (by decide +kernel), List.mem_of_getElem? (i := 989) (by decide +kernel), List.mem_of_getElem? (i := 990) (by decide +kernel)⟩
theorem lw_p60 : lw_okq (⟨"ScopeLinesModel", "openRange", "(II)V"⟩, 52) := ⟨⟨by decide +kernel, by decide +kernel⟩, List.mem_of_getElem? (i := 707) (by decide +kernel), List.mem_of_getElem? (i := 993) (by decide +kernel), List.mem_of_getElem? (i := 994) (by decide +kernel)⟩
theorem lw_p61 : lw_okq (⟨"ScopeLinesModel", "refresh", "(I)I"⟩, 52) := ⟨⟨by decide +kernel, by decide +kernel⟩, List.mem_of_getElem? (i := 707) (by decide +kernel), List.mem_of_getElem? (i := 1013) (by decide +kernel), List.mem_of_getElem? (i := 1014) (by decide +kernel)⟩
theorem lw_p62 : lw_okq (⟨"ScopeLinesModel", "sameState", "(II)Z"⟩, 52) := ⟨⟨by decide +kernel, by decide +kernel⟩, List.mem_of_getElem? (i := 707) (by decide +kernel), List.mem_of_getElem? (i := 1017) (by decide +kernel), List.mem_of_getElem? (i := 1018) (by decide +kernel)⟩
theorem lw_p63 : lw_okq (⟨"ScopeLinesModel", "isLine", "(I)Z"⟩, 52) := ⟨⟨by decide +kernel, by decide +kernel⟩, List.mem_of_getElem? (i := 707) (by decide +kernel), List.mem_of_getElem? (i := 1037) (by decide +kernel), List.mem_of_getElem? (i := 1038) (by decide +kernel)⟩
def lw_privs_4 : List (MethodName × Nat) := [(⟨"ScopeLinesModel", "copyState", "(II)V"⟩, 52), (⟨"ScopeLinesModel", "findBest", "(II)Z"⟩, 52), (⟨"ScopeLinesModel", "gather", "()I"⟩, 52), (⟨"ScopeLinesModel", "addRules", "(II)I"⟩, 52), (⟨"ScopeLinesModel", "search", "(III)V"⟩, 52), (⟨"ScopeLinesModel", "match", "(III)V"⟩, 52), (⟨"ScopeLinesModel", "push", "(III)V"⟩, 52), (⟨"ScopeLinesModel", "ended", "(II)Z"⟩, 52), (⟨"ScopeLinesModel", "fits", "(IIII)I"⟩, 52), (⟨"ScopeLinesModel", "step", "()Z"⟩, 52), (⟨"ScopeLinesModel", "inItems", "(III)Z"⟩, 52), (⟨"ScopeLinesModel", "cutOff", "(IIII)V"⟩, 52), (⟨"ScopeLinesModel", "openRange", "(II)V"⟩, 52), (⟨"ScopeLinesModel", "refresh", "(I)I"⟩, 52), (⟨"ScopeLinesModel", "sameState", "(II)Z"⟩, 52), (⟨"ScopeLinesModel", "isLine", "(I)Z"⟩, 52)]
theorem lw_r4 : ∀ q ∈ lw_privs_4, lw_okq q := List.forall_mem_cons.mpr ⟨lw_p48, List.forall_mem_cons.mpr ⟨lw_p49, List.forall_mem_cons.mpr ⟨lw_p50, List.forall_mem_cons.mpr ⟨lw_p51, List.forall_mem_cons.mpr ⟨lw_p52, List.forall_mem_cons.mpr ⟨lw_p53, List.forall_mem_cons.mpr ⟨lw_p54, List.forall_mem_cons.mpr ⟨lw_p55, List.forall_mem_cons.mpr ⟨lw_p56, List.forall_mem_cons.mpr ⟨lw_p57, List.forall_mem_cons.mpr ⟨lw_p58, List.forall_mem_cons.mpr ⟨lw_p59, List.forall_mem_cons.mpr ⟨lw_p60, List.forall_mem_cons.mpr ⟨lw_p61, List.forall_mem_cons.mpr ⟨lw_p62, List.forall_mem_cons.mpr ⟨lw_p63, fun _ h => absurd h List.not_mem_nil⟩⟩⟩⟩⟩⟩⟩⟩⟩⟩⟩⟩⟩⟩⟩⟩
theorem lw_p64 : lw_okq (⟨"ScopeLinesModel", "colour", "(I)I"⟩, 52) := ⟨⟨by decide +kernel, by decide +kernel⟩, List.mem_of_getElem? (i := 707) (by decide +kernel), List.mem_of_getElem? (i := 1049) (by decide +kernel), List.mem_of_getElem? (i := 1050) (by decide +kernel)⟩
theorem lw_p65 : lw_okq (⟨"ScopeLinesModel", "entry", "(IIZ)I"⟩, 52) := ⟨⟨by decide +kernel, by decide +kernel⟩, List.mem_of_getElem? (i := 707) (by decide +kernel), List.mem_of_getElem? (i := 1053) (by decide +kernel), List.mem_of_getElem? (i := 1054) (by decide +kernel)⟩
def lw_privs_5 : List (MethodName × Nat) := [(⟨"ScopeLinesModel", "colour", "(I)I"⟩, 52), (⟨"ScopeLinesModel", "entry", "(IIZ)I"⟩, 52)]
theorem lw_r5 : ∀ q ∈ lw_privs_5, lw_okq q := List.forall_mem_cons.mpr ⟨lw_p64, List.forall_mem_cons.mpr ⟨lw_p65, fun _ h => absurd h List.not_mem_nil⟩⟩
def lw_privs : List (MethodName × Nat) := lw_privs_1 ++ (lw_privs_2 ++ (lw_privs_3 ++ (lw_privs_4 ++ (lw_privs_5))))
def lw_tbl : List Cond := k2_sels lw_privs ++ tables_1
theorem lw_privs_ok : ∀ q ∈ lw_privs, lw_okq q := by
  show ∀ q ∈ lw_privs_1 ++ (lw_privs_2 ++ (lw_privs_3 ++ (lw_privs_4 ++ (lw_privs_5)))), lw_okq q
  exact List.forall_mem_append.mpr ⟨lw_r1, List.forall_mem_append.mpr ⟨lw_r2, List.forall_mem_append.mpr ⟨lw_r3, List.forall_mem_append.mpr ⟨lw_r4, lw_r5⟩⟩⟩⟩
end
section
/-! Names: classes, fields, methods -/
def R_SL : String := "ScopeLines"
def T_SL : u_T := fun k => match k with
  | 0 => ("ScopeLines", "draft", "[C", true)
  | 1 => ("ScopeLines", "drafted", "I", false)
  | 2 => ("ScopeLines", "parser", "LScopeLines$Parser;", true)
  | 3 => ("ScopeLines", "grammar", "LScopeLines$Grammar;", true)
  | 4 => ("ScopeLines", "document", "[LScopeLines$Line;", true)
  | 5 => ("ScopeLines", "lineCount", "I", false)
  | 6 => ("ScopeLines", "passCount", "I", false)
  | 7 => ("ScopeLines", "palette", "LScopeLines$Palette;", true)
  | 8 => ("ScopeLines", "nothingOpen", "LScopeLines$State;", true)
  | _ => ("ScopeLines", "before", "LScopeLines$State;", true)
def u_SL : Nat → FieldType := fun k => match k with
  | 0 => .array .char
  | 1 => .int
  | 2 => .object "ScopeLines$Parser"
  | 3 => .object "ScopeLines$Grammar"
  | 4 => .array (.object "ScopeLines$Line")
  | 5 => .int
  | 6 => .int
  | 7 => .object "ScopeLines$Palette"
  | 8 => .object "ScopeLines$State"
  | _ => .object "ScopeLines$State"
def R_St : String := "ScopeLines$State"
def T_St : u_T := fun k => match k with
  | 0 => ("ScopeLines$State", "open", "I", false)
  | 1 => ("ScopeLines$State", "ranges", "[I", true)
  | 2 => ("ScopeLines$State", "textLengths", "[I", true)
  | _ => ("ScopeLines$State", "texts", "[C", true)
def u_St : Nat → FieldType := fun k => match k with
  | 0 => .int
  | 1 => .array .int
  | 2 => .array .int
  | _ => .array .char
def R_Li : String := "ScopeLines$Line"
def T_Li : u_T := fun k => match k with
  | 0 => ("ScopeLines$Line", "characters", "[C", true)
  | 1 => ("ScopeLines$Line", "size", "I", false)
  | 2 => ("ScopeLines$Line", "begins", "[I", true)
  | 3 => ("ScopeLines$Line", "scopeCounts", "[I", true)
  | 4 => ("ScopeLines$Line", "scopes", "[I", true)
  | 5 => ("ScopeLines$Line", "tokenCount", "I", false)
  | 6 => ("ScopeLines$Line", "isMarked", "Z", false)
  | _ => ("ScopeLines$Line", "end", "LScopeLines$State;", true)
def u_Li : Nat → FieldType := fun k => match k with
  | 0 => .array .char
  | 1 => .int
  | 2 => .array .int
  | 3 => .array .int
  | 4 => .array .int
  | 5 => .int
  | 6 => .boolean
  | _ => .object "ScopeLines$State"
def R_Pa : String := "ScopeLines$Palette"
def T_Pa : u_T := fun k => match k with
  | 0 => ("ScopeLines$Palette", "scopes", "[I", true)
  | 1 => ("ScopeLines$Palette", "parents", "[I", true)
  | 2 => ("ScopeLines$Palette", "colours", "[I", true)
  | _ => ("ScopeLines$Palette", "count", "I", false)
def u_Pa : Nat → FieldType := fun k => match k with
  | 0 => .array .int
  | 1 => .array .int
  | 2 => .array .int
  | _ => .int
def R_Pt : String := "ScopeLines$Pattern"
def T_Pt : u_T := fun k => match k with
  | 0 => ("ScopeLines$Pattern", "ops", "[I", true)
  | 1 => ("ScopeLines$Pattern", "firsts", "[I", true)
  | 2 => ("ScopeLines$Pattern", "seconds", "[I", true)
  | 3 => ("ScopeLines$Pattern", "lowBits", "[J", true)
  | 4 => ("ScopeLines$Pattern", "highBits", "[J", true)
  | 5 => ("ScopeLines$Pattern", "size", "I", false)
  | _ => ("ScopeLines$Pattern", "setCount", "I", false)
def u_Pt : Nat → FieldType := fun k => match k with
  | 0 => .array .int
  | 1 => .array .int
  | 2 => .array .int
  | 3 => .array .long
  | 4 => .array .long
  | 5 => .int
  | _ => .int
def R_Pr : String := "ScopeLines$Parser"
def T_Pr : u_T := fun k => match k with
  | 0 => ("ScopeLines$Parser", "source", "[C", true)
  | 1 => ("ScopeLines$Parser", "size", "I", false)
  | 2 => ("ScopeLines$Parser", "at", "I", false)
  | 3 => ("ScopeLines$Parser", "inEnd", "Z", false)
  | 4 => ("ScopeLines$Parser", "isBad", "Z", false)
  | 5 => ("ScopeLines$Parser", "groups", "I", false)
  | 6 => ("ScopeLines$Parser", "level", "I", false)
  | 7 => ("ScopeLines$Parser", "groupNumbers", "[I", true)
  | 8 => ("ScopeLines$Parser", "bodies", "[I", true)
  | 9 => ("ScopeLines$Parser", "branches", "[I", true)
  | 10 => ("ScopeLines$Parser", "endedBranches", "[I", true)
  | 11 => ("ScopeLines$Parser", "branchIsEmpty", "[Z", true)
  | 12 => ("ScopeLines$Parser", "someIsEmpty", "[Z", true)
  | 13 => ("ScopeLines$Parser", "low", "J", false)
  | _ => ("ScopeLines$Parser", "high", "J", false)
def u_Pr : Nat → FieldType := fun k => match k with
  | 0 => .array .char
  | 1 => .int
  | 2 => .int
  | 3 => .boolean
  | 4 => .boolean
  | 5 => .int
  | 6 => .int
  | 7 => .array .int
  | 8 => .array .int
  | 9 => .array .int
  | 10 => .array .int
  | 11 => .array .boolean
  | 12 => .array .boolean
  | 13 => .long
  | _ => .long
def R_Se : String := "ScopeLines$Search"
def T_Se : u_T := fun k => match k with
  | 0 => ("ScopeLines$Search", "budget", "I", true)
  | 1 => ("ScopeLines$Search", "groups", "[I", true)
  | 2 => ("ScopeLines$Search", "begin", "I", false)
  | 3 => ("ScopeLines$Search", "end", "I", false)
  | 4 => ("ScopeLines$Search", "steps", "I", false)
  | 5 => ("ScopeLines$Search", "isOver", "Z", false)
  | 6 => ("ScopeLines$Search", "next", "I", false)
  | 7 => ("ScopeLines$Search", "here", "I", false)
  | 8 => ("ScopeLines$Search", "isMatch", "Z", false)
  | 9 => ("ScopeLines$Search", "waiting", "[I", true)
  | 10 => ("ScopeLines$Search", "waitingPlaces", "[I", true)
  | _ => ("ScopeLines$Search", "waitingCount", "I", false)
def u_Se : Nat → FieldType := fun k => match k with
  | 0 => .int
  | 1 => .array .int
  | 2 => .int
  | 3 => .int
  | 4 => .int
  | 5 => .boolean
  | 6 => .int
  | 7 => .int
  | 8 => .boolean
  | 9 => .array .int
  | 10 => .array .int
  | _ => .int
def R_Ru : String := "ScopeLines$Rule"
def T_Ru : u_T := fun k => match k with
  | 0 => ("ScopeLines$Rule", "pattern", "LScopeLines$Pattern;", true)
  | 1 => ("ScopeLines$Rule", "end", "LScopeLines$Pattern;", true)
  | 2 => ("ScopeLines$Rule", "isRange", "Z", false)
  | 3 => ("ScopeLines$Rule", "home", "I", false)
  | 4 => ("ScopeLines$Rule", "scope", "I", false)
  | _ => ("ScopeLines$Rule", "included", "I", false)
def u_Ru : Nat → FieldType := fun k => match k with
  | 0 => .object "ScopeLines$Pattern"
  | 1 => .object "ScopeLines$Pattern"
  | 2 => .boolean
  | 3 => .int
  | 4 => .int
  | _ => .int
def R_Gr : String := "ScopeLines$Grammar"
def T_Gr : u_T := fun k => match k with
  | 0 => ("ScopeLines$Grammar", "rules", "[LScopeLines$Rule;", true)
  | 1 => ("ScopeLines$Grammar", "ruleCount", "I", false)
  | 2 => ("ScopeLines$Grammar", "search", "LScopeLines$Search;", true)
  | 3 => ("ScopeLines$Grammar", "now", "LScopeLines$State;", true)
  | 4 => ("ScopeLines$Grammar", "candidates", "[I", true)
  | 5 => ("ScopeLines$Grammar", "candidateCount", "I", false)
  | 6 => ("ScopeLines$Grammar", "winner", "I", false)
  | 7 => ("ScopeLines$Grammar", "winnerBegin", "I", false)
  | 8 => ("ScopeLines$Grammar", "winnerEnd", "I", false)
  | _ => ("ScopeLines$Grammar", "winnerGroups", "[I", true)
def u_Gr : Nat → FieldType := fun k => match k with
  | 0 => .array (.object "ScopeLines$Rule")
  | 1 => .int
  | 2 => .object "ScopeLines$Search"
  | 3 => .object "ScopeLines$State"
  | 4 => .array .int
  | 5 => .int
  | 6 => .int
  | 7 => .int
  | 8 => .int
  | _ => .array .int
def R_Mo : String := "ScopeLinesModel"
def T_Mo : u_T := fun k => match k with
  | 0 => ("ScopeLinesModel", "budget", "I", false)
  | 1 => ("ScopeLinesModel", "drafted", "I", false)
  | 2 => ("ScopeLinesModel", "draft", "[I", false)
  | 3 => ("ScopeLinesModel", "rules", "I", false)
  | 4 => ("ScopeLinesModel", "isRange", "[Z", false)
  | 5 => ("ScopeLinesModel", "home", "[I", false)
  | 6 => ("ScopeLinesModel", "scope", "[I", false)
  | 7 => ("ScopeLinesModel", "includes", "[I", false)
  | 8 => ("ScopeLinesModel", "patLength", "[I", false)
  | 9 => ("ScopeLinesModel", "pat", "[I", false)
  | 10 => ("ScopeLinesModel", "quant", "[I", false)
  | 11 => ("ScopeLinesModel", "atomEnd", "[I", false)
  | 12 => ("ScopeLinesModel", "pieceEnd", "[I", false)
  | 13 => ("ScopeLinesModel", "groupOf", "[I", false)
  | 14 => ("ScopeLinesModel", "owner", "[I", false)
  | 15 => ("ScopeLinesModel", "bar", "[I", false)
  | 16 => ("ScopeLinesModel", "firstBar", "[I", false)
  | 17 => ("ScopeLinesModel", "opened", "[I", false)
  | 18 => ("ScopeLinesModel", "lastBar", "[I", false)
  | 19 => ("ScopeLinesModel", "some", "[Z", false)
  | 20 => ("ScopeLinesModel", "present", "[Z", false)
  | 21 => ("ScopeLinesModel", "steps", "I", false)
  | 22 => ("ScopeLinesModel", "over", "Z", false)
  | 23 => ("ScopeLinesModel", "matchFrom", "I", false)
  | 24 => ("ScopeLinesModel", "matchTo", "I", false)
  | 25 => ("ScopeLinesModel", "group", "[I", false)
  | 26 => ("ScopeLinesModel", "choices", "I", false)
  | 27 => ("ScopeLinesModel", "choice", "[I", false)
  | 28 => ("ScopeLinesModel", "refLength", "[I", false)
  | 29 => ("ScopeLinesModel", "ref", "[I", false)
  | 30 => ("ScopeLinesModel", "lines", "I", false)
  | 31 => ("ScopeLinesModel", "passes", "I", false)
  | 32 => ("ScopeLinesModel", "length", "[I", false)
  | 33 => ("ScopeLinesModel", "text", "[I", false)
  | 34 => ("ScopeLinesModel", "marked", "[Z", false)
  | 35 => ("ScopeLinesModel", "tokens", "[I", false)
  | 36 => ("ScopeLinesModel", "tokenAt", "[I", false)
  | 37 => ("ScopeLinesModel", "tokenScopes", "[I", false)
  | 38 => ("ScopeLinesModel", "tokenScope", "[I", false)
  | 39 => ("ScopeLinesModel", "depth", "[I", false)
  | 40 => ("ScopeLinesModel", "open", "[I", false)
  | 41 => ("ScopeLinesModel", "openLength", "[I", false)
  | 42 => ("ScopeLinesModel", "openText", "[I", false)
  | 43 => ("ScopeLinesModel", "candidates", "[I", false)
  | 44 => ("ScopeLinesModel", "best", "I", false)
  | 45 => ("ScopeLinesModel", "bestFrom", "I", false)
  | 46 => ("ScopeLinesModel", "bestTo", "I", false)
  | 47 => ("ScopeLinesModel", "bestGroup", "[I", false)
  | 48 => ("ScopeLinesModel", "entries", "I", false)
  | 49 => ("ScopeLinesModel", "entryScope", "[I", false)
  | 50 => ("ScopeLinesModel", "entryParent", "[I", false)
  | _ => ("ScopeLinesModel", "entryColour", "[I", false)
def u_Mo : Nat → FieldType := fun k => match k with
  | 0 => .int
  | 1 => .int
  | 2 => .array .int
  | 3 => .int
  | 4 => .array .boolean
  | 5 => .array .int
  | 6 => .array .int
  | 7 => .array .int
  | 8 => .array .int
  | 9 => .array .int
  | 10 => .array .int
  | 11 => .array .int
  | 12 => .array .int
  | 13 => .array .int
  | 14 => .array .int
  | 15 => .array .int
  | 16 => .array .int
  | 17 => .array .int
  | 18 => .array .int
  | 19 => .array .boolean
  | 20 => .array .boolean
  | 21 => .int
  | 22 => .boolean
  | 23 => .int
  | 24 => .int
  | 25 => .array .int
  | 26 => .int
  | 27 => .array .int
  | 28 => .array .int
  | 29 => .array .int
  | 30 => .int
  | 31 => .int
  | 32 => .array .int
  | 33 => .array .int
  | 34 => .array .boolean
  | 35 => .array .int
  | 36 => .array .int
  | 37 => .array .int
  | 38 => .array .int
  | 39 => .array .int
  | 40 => .array .int
  | 41 => .array .int
  | 42 => .array .int
  | 43 => .array .int
  | 44 => .int
  | 45 => .int
  | 46 => .int
  | 47 => .array .int
  | 48 => .int
  | 49 => .array .int
  | 50 => .array .int
  | _ => .array .int
def classes : List vw_C := [(R_SL, T_SL, 10), (R_St, T_St, 4), (R_Li, T_Li, 8), (R_Pa, T_Pa, 4), (R_Pt, T_Pt, 7), (R_Pr, T_Pr, 15), (R_Se, T_Se, 12), (R_Ru, T_Ru, 6), (R_Gr, T_Gr, 10), (R_Mo, T_Mo, 52)]
/-- a field's kind: 0 a number, 1 a long, 2 a reference -/
def zty (k j : Nat) : Nat := match k with
  | 0 => match j with
    | 0 => 2
    | 2 => 2
    | 3 => 2
    | 4 => 2
    | 7 => 2
    | 8 => 2
    | 9 => 2
    | _ => 0
  | 1 => match j with
    | 1 => 2
    | 2 => 2
    | 3 => 2
    | _ => 0
  | 2 => match j with
    | 0 => 2
    | 2 => 2
    | 3 => 2
    | 4 => 2
    | 7 => 2
    | _ => 0
  | 3 => match j with
    | 0 => 2
    | 1 => 2
    | 2 => 2
    | _ => 0
  | 4 => match j with
    | 0 => 2
    | 1 => 2
    | 2 => 2
    | 3 => 2
    | 4 => 2
    | _ => 0
  | 5 => match j with
    | 0 => 2
    | 7 => 2
    | 8 => 2
    | 9 => 2
    | 10 => 2
    | 11 => 2
    | 12 => 2
    | 13 => 1
    | 14 => 1
    | _ => 0
  | 6 => match j with
    | 1 => 2
    | 9 => 2
    | 10 => 2
    | _ => 0
  | 7 => match j with
    | 0 => 2
    | 1 => 2
    | _ => 0
  | 8 => match j with
    | 0 => 2
    | 2 => 2
    | 3 => 2
    | 4 => 2
    | 9 => 2
    | _ => 0
  | 9 => match j with
    | 2 => 2
    | 4 => 2
    | 5 => 2
    | 6 => 2
    | 7 => 2
    | 8 => 2
    | 9 => 2
    | 10 => 2
    | 11 => 2
    | 12 => 2
    | 13 => 2
    | 14 => 2
    | 15 => 2
    | 16 => 2
    | 17 => 2
    | 18 => 2
    | 19 => 2
    | 20 => 2
    | 25 => 2
    | 27 => 2
    | 28 => 2
    | 29 => 2
    | 32 => 2
    | 33 => 2
    | 34 => 2
    | 35 => 2
    | 36 => 2
    | 37 => 2
    | 38 => 2
    | 39 => 2
    | 40 => 2
    | 41 => 2
    | 42 => 2
    | 43 => 2
    | 47 => 2
    | 49 => 2
    | 50 => 2
    | 51 => 2
    | _ => 0
  | _ => 0
def zdf (t : Nat) : Value := match t with
  | 0 => .int 0
  | 1 => .long 0
  | _ => .null
def zNW : List Cond := [.methodLinkNest "ScopeLines" 15 ⟨"ScopeLines$Parser", "<init>", "()V"⟩ "ScopeLines", .methodLinkNest "ScopeLines" 28 ⟨"ScopeLines$Palette", "<init>", "()V"⟩ "ScopeLines", .methodLinkNest "ScopeLines" 35 ⟨"ScopeLines$State", "<init>", "()V"⟩ "ScopeLines", .methodLinkNest "ScopeLines$Grammar" 19 ⟨"ScopeLines$State", "<init>", "()V"⟩ "ScopeLines", .methodLinkNest "ScopeLines$Grammar" 40 ⟨"ScopeLines$Rule", "<init>", "()V"⟩ "ScopeLines", .methodLinkNest "ScopeLines$Rule" 11 ⟨"ScopeLines$Pattern", "<init>", "()V"⟩ "ScopeLines", .methodLinkNest "ScopeLines" 61 ⟨"ScopeLines$Line", "<init>", "()V"⟩ "ScopeLines", .methodLinkNest "ScopeLines$Line" 27 ⟨"ScopeLines$State", "<init>", "()V"⟩ "ScopeLines"]
def z_isNest (w : Cond) : Bool := match w with
  | .methodLinkNest .. => true
  | .fieldLinkNest .. => true
  | _ => false
theorem zNW_all : zNW.all z_isNest = true := by decide +kernel
theorem zNW_nest (w : Cond) (h : w ∈ zNW) : z_isNest w = true := List.all_eq_true.mp zNW_all w h
theorem zNW_tbl : ∀ w ∈ zNW, w ∈ tables_1 := by decide +kernel
def y_Pr_init : MethodName := ⟨"ScopeLines$Parser", "<init>", "()V"⟩
def y_Pa_init : MethodName := ⟨"ScopeLines$Palette", "<init>", "()V"⟩
def y_St_init : MethodName := ⟨"ScopeLines$State", "<init>", "()V"⟩
def y_Se_init : MethodName := ⟨"ScopeLines$Search", "<init>", "(I)V"⟩
def y_Pt_init : MethodName := ⟨"ScopeLines$Pattern", "<init>", "()V"⟩
def y_Ru_init : MethodName := ⟨"ScopeLines$Rule", "<init>", "()V"⟩
def y_Gr_init : MethodName := ⟨"ScopeLines$Grammar", "<init>", "(I)V"⟩
def y_Li_init : MethodName := ⟨"ScopeLines$Line", "<init>", "()V"⟩
def y_SL_init : MethodName := ⟨"ScopeLines", "<init>", "(I)V"⟩
def y_SL_type : MethodName := ⟨"ScopeLines", "type", "(J)Z"⟩
def y_SL_wipe : MethodName := ⟨"ScopeLines", "wipe", "()V"⟩
def y_Gr_isRange : MethodName := ⟨"ScopeLines$Grammar", "isRange", "(I)Z"⟩
def y_SL_isScope : MethodName := ⟨"ScopeLines", "isScope", "(I)Z"⟩
def y_Gr_nextRule : MethodName := ⟨"ScopeLines$Grammar", "nextRule", "()LScopeLines$Rule;"⟩
def y_Pr_hasBlank : MethodName := ⟨"ScopeLines$Parser", "hasBlank", "()Z"⟩
def y_Pt_clear : MethodName := ⟨"ScopeLines$Pattern", "clear", "()V"⟩
def y_Pr_openLevel : MethodName := ⟨"ScopeLines$Parser", "openLevel", "(I)V"⟩
def y_Pt_insert : MethodName := ⟨"ScopeLines$Pattern", "insert", "(IIII)V"⟩
def y_Pt_append : MethodName := ⟨"ScopeLines$Pattern", "append", "(II)V"⟩
def y_Pt_endBranch : MethodName := ⟨"ScopeLines$Pattern", "endBranch", "(I)V"⟩
def y_Pr_endBranch : MethodName := ⟨"ScopeLines$Parser", "endBranch", "(LScopeLines$Pattern;)V"⟩
def y_Pr_openGroup : MethodName := ⟨"ScopeLines$Parser", "openGroup", "(LScopeLines$Pattern;)V"⟩
def y_Pt_joinBranches : MethodName := ⟨"ScopeLines$Pattern", "joinBranches", "(II)V"⟩
def y_Pr_closeLevel : MethodName := ⟨"ScopeLines$Parser", "closeLevel", "(LScopeLines$Pattern;)Z"⟩
def y_Pt_insertSplit : MethodName := ⟨"ScopeLines$Pattern", "insertSplit", "(IIIZ)V"⟩
def y_Pt_repeat : MethodName := ⟨"ScopeLines$Pattern", "repeat", "(ICZ)V"⟩
def y_Pr_readQuantifier : MethodName := ⟨"ScopeLines$Parser", "readQuantifier", "(IZLScopeLines$Pattern;)V"⟩
def y_Pr_closeGroup : MethodName := ⟨"ScopeLines$Parser", "closeGroup", "(LScopeLines$Pattern;)V"⟩
def y_Pr_readItem : MethodName := ⟨"ScopeLines$Parser", "readItem", "()V"⟩
def y_Pt_appendSet : MethodName := ⟨"ScopeLines$Pattern", "appendSet", "(JJ)V"⟩
def y_Pr_readSet : MethodName := ⟨"ScopeLines$Parser", "readSet", "(LScopeLines$Pattern;)V"⟩
def y_Pr_readEscape : MethodName := ⟨"ScopeLines$Parser", "readEscape", "(LScopeLines$Pattern;)Z"⟩
def y_Pr_readAtom : MethodName := ⟨"ScopeLines$Parser", "readAtom", "(CLScopeLines$Pattern;)Z"⟩
def y_Pr_readNext : MethodName := ⟨"ScopeLines$Parser", "readNext", "(LScopeLines$Pattern;)V"⟩
def y_Pr_parse : MethodName := ⟨"ScopeLines$Parser", "parse", "([CIIZLScopeLines$Pattern;)Z"⟩
def y_Gr_keepNextRule : MethodName := ⟨"ScopeLines$Grammar", "keepNextRule", "(IIZ)V"⟩
def y_SL_addRule : MethodName := ⟨"ScopeLines", "addRule", "(IIZ)I"⟩
def y_St_copy : MethodName := ⟨"ScopeLines$State", "copy", "(LScopeLines$State;)V"⟩
def y_St_innermost : MethodName := ⟨"ScopeLines$State", "innermost", "()I"⟩
def y_Gr_listRulesOf : MethodName := ⟨"ScopeLines$Grammar", "listRulesOf", "(I)V"⟩
def y_Gr_listCandidates : MethodName := ⟨"ScopeLines$Grammar", "listCandidates", "()V"⟩
def y_Ar_fill : MethodName := ⟨"java/util/Arrays", "fill", "([II)V"⟩
def y_Se_leaveWaiting : MethodName := ⟨"ScopeLines$Search", "leaveWaiting", "(II)V"⟩
def y_St_textLength : MethodName := ⟨"ScopeLines$State", "textLength", "(II)I"⟩
def y_Se_makeStep : MethodName := ⟨"ScopeLines$Search", "makeStep", "()Z"⟩
def y_St_textCharacter : MethodName := ⟨"ScopeLines$State", "textCharacter", "(III)C"⟩
def y_Se_fitsText : MethodName := ⟨"ScopeLines$Search", "fitsText", "(LScopeLines$Line;LScopeLines$State;I)Z"⟩
def y_Pt_isInSet : MethodName := ⟨"ScopeLines$Pattern", "isInSet", "(IC)Z"⟩
def y_Se_fitsAtom : MethodName := ⟨"ScopeLines$Search", "fitsAtom", "(LScopeLines$Pattern;LScopeLines$Line;I)Z"⟩
def y_Se_goBack : MethodName := ⟨"ScopeLines$Search", "goBack", "()Z"⟩
def y_Se_doNext : MethodName := ⟨"ScopeLines$Search", "doNext", "(LScopeLines$Pattern;LScopeLines$Line;LScopeLines$State;)Z"⟩
def y_Se_run : MethodName := ⟨"ScopeLines$Search", "run", "(LScopeLines$Pattern;LScopeLines$Line;ILScopeLines$State;)V"⟩
def y_Gr_keepWinner : MethodName := ⟨"ScopeLines$Grammar", "keepWinner", "(I)V"⟩
def y_Gr_findWinner : MethodName := ⟨"ScopeLines$Grammar", "findWinner", "(LScopeLines$Line;I)Z"⟩
def y_Li_addToken : MethodName := ⟨"ScopeLines$Line", "addToken", "(I)V"⟩
def y_Li_addScope : MethodName := ⟨"ScopeLines$Line", "addScope", "(I)V"⟩
def y_Gr_cut : MethodName := ⟨"ScopeLines$Grammar", "cut", "(LScopeLines$Line;II)Z"⟩
def y_Gr_mark : MethodName := ⟨"ScopeLines$Grammar", "mark", "(LScopeLines$Line;LScopeLines$State;)V"⟩
def y_Gr_isLast : MethodName := ⟨"ScopeLines$Grammar", "isLast", "(I)Z"⟩
def y_St_push : MethodName := ⟨"ScopeLines$State", "push", "(I)V"⟩
def y_St_keepText : MethodName := ⟨"ScopeLines$State", "keepText", "(ILScopeLines$Line;II)V"⟩
def y_Gr_takeWinner : MethodName := ⟨"ScopeLines$Grammar", "takeWinner", "(LScopeLines$Line;)V"⟩
def y_Gr_tokenize : MethodName := ⟨"ScopeLines$Grammar", "tokenize", "(LScopeLines$Line;LScopeLines$State;)V"⟩
def y_St_isSameText : MethodName := ⟨"ScopeLines$State", "isSameText", "(LScopeLines$State;I)Z"⟩
def y_St_isSame : MethodName := ⟨"ScopeLines$State", "isSame", "(LScopeLines$State;)Z"⟩
def y_SL_tokenizeFrom : MethodName := ⟨"ScopeLines", "tokenizeFrom", "(IZ)I"⟩
def y_SL_piece : MethodName := ⟨"ScopeLines", "piece", "(II)I"⟩
def y_SL_firstBlank : MethodName := ⟨"ScopeLines", "firstBlank", "()I"⟩
def y_SL_range : MethodName := ⟨"ScopeLines", "range", "(II)I"⟩
def y_SL_include : MethodName := ⟨"ScopeLines", "include", "(II)Z"⟩
def y_Pa_add : MethodName := ⟨"ScopeLines$Palette", "add", "(III)V"⟩
def y_SL_theme : MethodName := ⟨"ScopeLines", "theme", "(III)Z"⟩
def y_Li_write : MethodName := ⟨"ScopeLines$Line", "write", "([CI)V"⟩
def y_SL_put : MethodName := ⟨"ScopeLines", "put", "(I)I"⟩
def y_SL_isLine : MethodName := ⟨"ScopeLines", "isLine", "(I)Z"⟩
def y_SL_drop : MethodName := ⟨"ScopeLines", "drop", "(I)I"⟩
def y_SL_lines : MethodName := ⟨"ScopeLines", "lines", "()I"⟩
def y_SL_passes : MethodName := ⟨"ScopeLines", "passes", "()I"⟩
def y_SL_length : MethodName := ⟨"ScopeLines", "length", "(I)I"⟩
def y_SL_tokens : MethodName := ⟨"ScopeLines", "tokens", "(I)I"⟩
def y_Li_scopeOf : MethodName := ⟨"ScopeLines$Line", "scopeOf", "(II)I"⟩
def y_Li_lastScope : MethodName := ⟨"ScopeLines$Line", "lastScope", "(I)I"⟩
def y_Pa_isUnder : MethodName := ⟨"ScopeLines$Palette", "isUnder", "(LScopeLines$Line;III)Z"⟩
def y_Pa_entryFor : MethodName := ⟨"ScopeLines$Palette", "entryFor", "(LScopeLines$Line;II)I"⟩
def y_Pa_colourOf : MethodName := ⟨"ScopeLines$Palette", "colourOf", "(LScopeLines$Line;I)I"⟩
def y_SL_token : MethodName := ⟨"ScopeLines", "token", "(III)I"⟩
def y_SL_marked : MethodName := ⟨"ScopeLines", "marked", "(I)Z"⟩
def y_St_isOpen : MethodName := ⟨"ScopeLines$State", "isOpen", "(I)Z"⟩
def y_SL_state : MethodName := ⟨"ScopeLines", "state", "(II)I"⟩
def y_SL_text : MethodName := ⟨"ScopeLines", "text", "(III)I"⟩
def y_SL_find : MethodName := ⟨"ScopeLines", "find", "(IIII)I"⟩
def y_Mo_init : MethodName := ⟨"ScopeLinesModel", "<init>", "(I)V"⟩
def y_Mo_type : MethodName := ⟨"ScopeLinesModel", "type", "(J)Z"⟩
def y_Mo_wipe : MethodName := ⟨"ScopeLinesModel", "wipe", "()V"⟩
def y_Mo_quantifier : MethodName := ⟨"ScopeLinesModel", "quantifier", "(I)Z"⟩
def y_Mo_at : MethodName := ⟨"ScopeLinesModel", "at", "(II)I"⟩
def y_Mo_items : MethodName := ⟨"ScopeLinesModel", "items", "(II)I"⟩
def y_Mo_simple : MethodName := ⟨"ScopeLinesModel", "simple", "(IIZ)I"⟩
def y_Mo_isRef : MethodName := ⟨"ScopeLinesModel", "isRef", "(II)Z"⟩
def y_Mo_quantified : MethodName := ⟨"ScopeLinesModel", "quantified", "(IIIZI)I"⟩
def y_Mo_openLevel : MethodName := ⟨"ScopeLinesModel", "openLevel", "(II)V"⟩
def y_Mo_note : MethodName := ⟨"ScopeLinesModel", "note", "(III)V"⟩
def y_Mo_parse : MethodName := ⟨"ScopeLinesModel", "parse", "(IZ)Z"⟩
def y_Mo_inItems : MethodName := ⟨"ScopeLinesModel", "inItems", "(III)Z"⟩
def y_Mo_push : MethodName := ⟨"ScopeLinesModel", "push", "(III)V"⟩
def y_Mo_step : MethodName := ⟨"ScopeLinesModel", "step", "()Z"⟩
def y_Mo_fits : MethodName := ⟨"ScopeLinesModel", "fits", "(IIII)I"⟩
def y_Mo_ended : MethodName := ⟨"ScopeLinesModel", "ended", "(II)Z"⟩
def y_Mo_match : MethodName := ⟨"ScopeLinesModel", "match", "(III)V"⟩
def y_Mo_search : MethodName := ⟨"ScopeLinesModel", "search", "(III)V"⟩
def y_Mo_copyState : MethodName := ⟨"ScopeLinesModel", "copyState", "(II)V"⟩
def y_Mo_sameState : MethodName := ⟨"ScopeLinesModel", "sameState", "(II)Z"⟩
def y_Mo_begin : MethodName := ⟨"ScopeLinesModel", "begin", "(I)V"⟩
def y_Mo_addRules : MethodName := ⟨"ScopeLinesModel", "addRules", "(II)I"⟩
def y_Mo_gather : MethodName := ⟨"ScopeLinesModel", "gather", "()I"⟩
def y_Mo_findBest : MethodName := ⟨"ScopeLinesModel", "findBest", "(II)Z"⟩
def y_Mo_cutOff : MethodName := ⟨"ScopeLinesModel", "cutOff", "(IIII)V"⟩
def y_Mo_openRange : MethodName := ⟨"ScopeLinesModel", "openRange", "(II)V"⟩
def y_Mo_tokenize : MethodName := ⟨"ScopeLinesModel", "tokenize", "(I)V"⟩
def y_Mo_refresh : MethodName := ⟨"ScopeLinesModel", "refresh", "(I)I"⟩
def y_Mo_refreshAll : MethodName := ⟨"ScopeLinesModel", "refreshAll", "()V"⟩
def y_Mo_lift : MethodName := ⟨"ScopeLinesModel", "lift", "(III)V"⟩
def y_Mo_isRangeNumber : MethodName := ⟨"ScopeLinesModel", "isRangeNumber", "(I)Z"⟩
def y_Mo_isPattern : MethodName := ⟨"ScopeLinesModel", "isPattern", "(IIZ)Z"⟩
def y_Mo_make : MethodName := ⟨"ScopeLinesModel", "make", "(IIZI)I"⟩
def y_Mo_piece : MethodName := ⟨"ScopeLinesModel", "piece", "(II)I"⟩
def y_Mo_range : MethodName := ⟨"ScopeLinesModel", "range", "(II)I"⟩
def y_Mo_include : MethodName := ⟨"ScopeLinesModel", "include", "(II)Z"⟩
def y_Mo_theme : MethodName := ⟨"ScopeLinesModel", "theme", "(III)Z"⟩
def y_Mo_put : MethodName := ⟨"ScopeLinesModel", "put", "(I)I"⟩
def y_Mo_drop : MethodName := ⟨"ScopeLinesModel", "drop", "(I)I"⟩
def y_Mo_isLine : MethodName := ⟨"ScopeLinesModel", "isLine", "(I)Z"⟩
def y_Mo_lines : MethodName := ⟨"ScopeLinesModel", "lines", "()I"⟩
def y_Mo_passes : MethodName := ⟨"ScopeLinesModel", "passes", "()I"⟩
def y_Mo_length : MethodName := ⟨"ScopeLinesModel", "length", "(I)I"⟩
def y_Mo_tokens : MethodName := ⟨"ScopeLinesModel", "tokens", "(I)I"⟩
def y_Mo_entry : MethodName := ⟨"ScopeLinesModel", "entry", "(IIZ)I"⟩
def y_Mo_colour : MethodName := ⟨"ScopeLinesModel", "colour", "(I)I"⟩
def y_Mo_token : MethodName := ⟨"ScopeLinesModel", "token", "(III)I"⟩
def y_Mo_marked : MethodName := ⟨"ScopeLinesModel", "marked", "(I)Z"⟩
def y_Mo_state : MethodName := ⟨"ScopeLinesModel", "state", "(II)I"⟩
def y_Mo_text : MethodName := ⟨"ScopeLinesModel", "text", "(III)I"⟩
def y_Mo_find : MethodName := ⟨"ScopeLinesModel", "find", "(IIII)I"⟩
def y_Lw_cell : MethodName := ⟨"ScopeLinesLaw", "cell", "([II)I"⟩
end
section
/-! The heap as numbers: kinds and lengths of the cells, their references, their numbers; cell 0 is null. -/
abbrev zV : Type := Nat × Int
abbrev zH : Type := List (Nat × Nat) × (Nat → Nat → Nat) × (Nat → Nat → Int)
def zw (x : Int) : Int := x.bmod 4294967296
def zq (x : Int) : Int := x.bmod 18446744073709551616
def z_up {α : Type} (f : Nat → Nat → α) (c j : Nat) (x : α) : Nat → Nat → α := fun a b => if a = c ∧ b = j then x else f a b
def zsl (h : zH) : Nat := (h.1.map Prod.snd).sum
def z_gI (h : zH) (k c j : Nat) : Option Int := match h.1[c]? with
  | some q => if q.1 = k then some (h.2.2 c j) else none
  | none => none
def z_gR (h : zH) (k c j : Nat) : Option Nat := match h.1[c]? with
  | some q => if q.1 = k ∧ h.2.1 c j ≠ 0 then some (h.2.1 c j) else none
  | none => none
def z_pI (h : zH) (k c j : Nat) (x : Int) : Option zH := match h.1[c]? with
  | some q => if q.1 = k then some (h.1, h.2.1, z_up h.2.2 c j x) else none
  | none => none
def z_pZ (h : zH) (k c j : Nat) (x : Int) : Option zH := if x = 0 ∨ x = 1 then z_pI h k c j x else none
def z_pR (h : zH) (k c j : Nat) (x : Nat) : Option zH := match h.1[c]? with
  | some q => if q.1 = k then some (h.1, z_up h.2.1 c j x, h.2.2) else none
  | none => none
def z_aI (h : zH) (k c : Nat) (i : Int) : Option Int := match h.1[c]? with
  | some q => if q.1 = k ∧ 0 ≤ i ∧ i < q.2 then some (h.2.2 c i.toNat) else none
  | none => none
def z_aR (h : zH) (k c : Nat) (i : Int) : Option Nat := match h.1[c]? with
  | some q => if q.1 = k ∧ 0 ≤ i ∧ i < q.2 ∧ h.2.1 c i.toNat ≠ 0 then some (h.2.1 c i.toNat) else none
  | none => none
def z_sI (h : zH) (k c : Nat) (i x : Int) : Option zH := match h.1[c]? with
  | some q => if q.1 = k ∧ 0 ≤ i ∧ i < q.2 then some (h.1, h.2.1, z_up h.2.2 c i.toNat x) else none
  | none => none
/-- x is a cell of the kind k2 -/
def z_sR (h : zH) (k k2 c : Nat) (i : Int) (x : Nat) : Option zH := match h.1[c]?, h.1[x]? with
  | some q, some u => if q.1 = k ∧ 0 ≤ i ∧ i < q.2 ∧ u.1 = k2 then some (h.1, z_up h.2.1 c i.toNat x, h.2.2) else none
  | _, _ => none
def z_len (h : zH) (k c : Nat) : Option Int := match h.1[c]? with
  | some q => if q.1 = k then some q.2 else none
  | none => none
def z_new (h : zH) (k n : Nat) : zH := (h.1 ++ [(k, n)], fun a b => if a = h.1.length then 0 else h.2.1 a b, fun a b => if a = h.1.length then 0 else h.2.2 a b)
def z_nwA (h : zH) (k : Nat) (n : Int) : Option zH := if 0 ≤ n ∧ n ≤ 100000 then some (z_new h k n.toNat) else none
def z_cp (h : zH) (k c0 : Nat) (sp : Int) (c1 : Nat) (dp n : Int) : Option zH := match h.1[c0]?, h.1[c1]? with
  | some q, some u => if q.1 = k ∧ u.1 = k ∧ 0 ≤ sp ∧ 0 ≤ dp ∧ 0 ≤ n ∧ sp + n ≤ q.2 ∧ dp + n ≤ u.2 then some (h.1, h.2.1, fun a j => if a = c1 ∧ dp.toNat ≤ j ∧ j < dp.toNat + n.toNat then h.2.2 c0 (sp.toNat + (j - dp.toNat)) else h.2.2 a j) else none
  | _, _ => none
/-- the cell c is of the kind k -/
def z_ck (h : zH) (k c : Nat) : Option Nat := match h.1[c]? with
  | some q => if q.1 = k then some q.2 else none
  | none => none
theorem z_ck_of {h : zH} {k c n : Nat} (e : z_ck h k c = some n) : h.1[c]? = some (k, n) := by
  unfold z_ck at e
  split at e
  · rename_i q hq
    split at e
    · rename_i hk
      obtain ⟨a, b⟩ := q
      cases hk
      cases e
      exact hq
    · cases e
  · cases e
/-- a boolean that goes out -/
def z_bo (x : Int) : Option Int := if x = 0 ∨ x = 1 then some x else none
theorem z_bo_of {x b : Int} (e : z_bo x = some b) : b = x ∧ (x = 0 ∨ x = 1) := by
  unfold z_bo at e
  split at e
  · rename_i h
    exact ⟨(Option.some.inj e).symm, h⟩
  · cases e
def z_max (x y : Int) : Int := if x < y then y else x
def z_min (x y : Int) : Int := if y < x then y else x
def z_and (a b : Int) : Int := (Int32.ofInt a &&& Int32.ofInt b).toInt
def z_land (a b : Int) : Int := (Int64.ofInt a &&& Int64.ofInt b).toInt
def z_lor (a b : Int) : Int := (Int64.ofInt a ||| Int64.ofInt b).toInt
def z_lxor (a b : Int) : Int := (Int64.ofInt a ^^^ Int64.ofInt b).toInt
def z_lshl (a b : Int) : Int := (Int64.ofInt a <<< ((Int32.ofInt b).toInt64 &&& 63)).toInt
def z_lshr (a b : Int) : Int := (Int64.ofInt a >>> ((Int32.ofInt b).toInt64 &&& 63)).toInt
def z_lushr (a b : Int) : Int := ((Int64.ofInt a).toUInt64 >>> ((Int32.ofInt b).toInt64.toUInt64 &&& Int64.toUInt64 63)).toInt64.toInt
def z_lcmp (a b : Int) : Int := if a < b then -1 else if a = b then 0 else 1
def zi32 (x : Int) : Prop := -2147483648 ≤ x ∧ x < 2147483648
def zi64 (x : Int) : Prop := -9223372036854775808 ≤ x ∧ x < 9223372036854775808
theorem zi_w (x : Int) : zi32 (zw x) := by
  have h1 := Int.le_bmod (x := x) (m := 4294967296) (by decide)
  have h2 := Int.bmod_lt (x := x) (m := 4294967296) (by decide)
  unfold zi32 zw
  omega
theorem zi_q (x : Int) : zi64 (zq x) := by
  have h1 := Int.le_bmod (x := x) (m := 18446744073709551616) (by decide)
  have h2 := Int.bmod_lt (x := x) (m := 18446744073709551616) (by decide)
  unfold zi64 zq
  omega
theorem zw_id {x : Int} (h : zi32 x) : zw x = x := by
  unfold zi32 at h
  unfold zw
  rw [Int.bmod_eq_of_le] <;> omega
theorem zi_to (x : Int32) : zi32 x.toInt := by
  have h1 := Int32.le_toInt x
  have h2 := Int32.toInt_lt x
  unfold zi32
  omega
theorem zi_toL (x : Int64) : zi64 x.toInt := by
  have h1 := Int64.le_toInt x
  have h2 := Int64.toInt_lt x
  unfold zi64
  omega
theorem zI_to {x : Int} (h : zi32 x) : (Int32.ofInt x).toInt = x := by
  rw [Int32.toInt_ofInt]
  exact zw_id h
theorem zI_w (x : Int) : Int32.ofInt (zw x) = Int32.ofInt x := by
  apply Int32.toInt_inj.mp
  rw [zI_to (zi_w x), Int32.toInt_ofInt]
  rfl
theorem zL_to {x : Int} (h : zi64 x) : (Int64.ofInt x).toInt = x := by
  rw [Int64.toInt_ofInt]
  unfold zi64 at h
  show x.bmod 18446744073709551616 = x
  rw [Int.bmod_eq_of_le] <;> omega
theorem zL_q (x : Int) : Int64.ofInt (zq x) = Int64.ofInt x := by
  apply Int64.toInt_inj.mp
  rw [zL_to (zi_q x), Int64.toInt_ofInt]
  rfl
theorem zI_of (x : Int32) : Int32.ofInt x.toInt = x := Int32.ofInt_toInt x
theorem zL_of (x : Int64) : Int64.ofInt x.toInt = x := Int64.ofInt_toInt x
theorem zI_eq {x y : Int} (hx : zi32 x) (hy : zi32 y) : Int32.ofInt x = Int32.ofInt y ↔ x = y := by
  constructor
  · intro h
    rw [← zI_to hx, ← zI_to hy, h]
  · intro h
    rw [h]
theorem zI_lt {x y : Int} (hx : zi32 x) (hy : zi32 y) : Int32.ofInt x < Int32.ofInt y ↔ x < y := by
  rw [Int32.lt_iff_toInt_lt, zI_to hx, zI_to hy]
theorem zI_le {x y : Int} (hx : zi32 x) (hy : zi32 y) : Int32.ofInt x ≤ Int32.ofInt y ↔ x ≤ y := by
  rw [Int32.le_iff_toInt_le, zI_to hx, zI_to hy]
theorem zI_cl {x : Int} (hx : zi32 x) : (Int32.ofInt x).toNatClampNeg = x.toNat := by
  show (Int32.ofInt x).toInt.toNat = x.toNat
  rw [zI_to hx]
theorem zI_0 : Int32.ofInt 0 = 0 := rfl
/-- what comes out of a chain -/
theorem z_bd {α β : Type} {o : Option α} {f : α → Option β} {r : β} (h : o.bind f = some r) : ∃ v, o = some v ∧ f v = some r := by
  cases o with
  | none => cases h
  | some v => exact ⟨v, rfl, h⟩
theorem z_it {β : Type} {c : Prop} [Decidable c] {a b : Option β} {r : β} (h : (if c then a else b) = some r) : (c ∧ a = some r) ∨ (¬ c ∧ b = some r) := by
  by_cases hc : c
  · rw [if_pos hc] at h
    exact Or.inl ⟨hc, h⟩
  · rw [if_neg hc] at h
    exact Or.inr ⟨hc, h⟩
def zlit (n : Int) : Bool := decide (-2147483648 ≤ n) && decide (n < 2147483648)
def zlit64 (n : Int) : Bool := decide (-9223372036854775808 ≤ n) && decide (n < 9223372036854775808)
theorem zi_lit {n : Int} (h : zlit n = true) : zi32 n := by
  unfold zlit at h
  simp at h
  exact h
theorem zi_lit64 {n : Int} (h : zlit64 n = true) : zi64 n := by
  unfold zlit64 at h
  simp at h
  exact h
theorem z_m0 {α : Type} {a : α} {l : List α} : a ∈ a :: l := List.mem_cons_self
theorem z_m1 {α : Type} {a b0 : α} {l : List α} : a ∈ b0 :: a :: l := by simp
theorem z_m2 {α : Type} {a b0 b1 : α} {l : List α} : a ∈ b0 :: b1 :: a :: l := by simp
theorem z_m3 {α : Type} {a b0 b1 b2 : α} {l : List α} : a ∈ b0 :: b1 :: b2 :: a :: l := by simp
theorem z_m4 {α : Type} {a b0 b1 b2 b3 : α} {l : List α} : a ∈ b0 :: b1 :: b2 :: b3 :: a :: l := by simp
theorem z_m5 {α : Type} {a b0 b1 b2 b3 b4 : α} {l : List α} : a ∈ b0 :: b1 :: b2 :: b3 :: b4 :: a :: l := by simp
theorem z_m6 {α : Type} {a b0 b1 b2 b3 b4 b5 : α} {l : List α} : a ∈ b0 :: b1 :: b2 :: b3 :: b4 :: b5 :: a :: l := by simp
theorem z_m7 {α : Type} {a b0 b1 b2 b3 b4 b5 b6 : α} {l : List α} : a ∈ b0 :: b1 :: b2 :: b3 :: b4 :: b5 :: b6 :: a :: l := by simp
theorem z_m8 {α : Type} {a b0 b1 b2 b3 b4 b5 b6 b7 : α} {l : List α} : a ∈ b0 :: b1 :: b2 :: b3 :: b4 :: b5 :: b6 :: b7 :: a :: l := by simp
theorem z_m9 {α : Type} {a b0 b1 b2 b3 b4 b5 b6 b7 b8 : α} {l : List α} : a ∈ b0 :: b1 :: b2 :: b3 :: b4 :: b5 :: b6 :: b7 :: b8 :: a :: l := by simp
theorem z_m10 {α : Type} {a b0 b1 b2 b3 b4 b5 b6 b7 b8 b9 : α} {l : List α} : a ∈ b0 :: b1 :: b2 :: b3 :: b4 :: b5 :: b6 :: b7 :: b8 :: b9 :: a :: l := by simp
end
section
/-! The heap of the machine as the heap of numbers shows it; a run of a method's frame to its return. -/
abbrev zE : Type := va_G × (Nat → ClassId) × Nat × Nat × Cell × Nat × (Nat → Int32)
/-- name, code, locals, answer, frames and words of locals that its calls may take -/
abbrev zM : Type := MethodName × ByteArray × Nat × Option FieldType × Nat × Nat
def zrf (E : zE) (r : Nat) : Value := if r = 0 then .null else .ref (E.2.2.1 + r)
def zcv (E : zE) (v : zV) : Value := match v.1 with
  | 0 => .int (Int32.ofInt v.2)
  | 1 => .long (Int64.ofInt v.2)
  | 2 => zrf E v.2.toNat
  | _ => .ref E.2.2.2.1
def zfv (E : zE) (k j r : Nat) (x : Int) : Value := match zty k j with
  | 0 => .int (Int32.ofInt x)
  | 1 => .long (Int64.ofInt x)
  | _ => zrf E r
def zav (E : zE) (k r : Nat) (x : Int) : Value := if k < 23 then .int (Int32.ofInt x) else if k = 23 then .long (Int64.ofInt x) else zrf E r
def zok (t : Nat) (x : Int) : Prop := match t with
  | 0 => zi32 x
  | 1 => zi64 x
  | 3 => 0 ≤ x ∧ x < 65536
  | _ => True
def ztp (k j : Nat) : Nat := if k < 20 then zty k j else if k = 21 then 3 else if k = 23 then 1 else if k = 24 then 2 else if k = 25 then 2 else 0
def zat (E : zE) (h : zH) (c k n : Nat) (H : Heap) : Prop :=
  if k < 20 then ∃ r : vw_C, classes[k]? = some r ∧ n = r.2.2 ∧ t_OB (E.2.2.1 + c) (E.1.1 k) r.2.2 (E.1.2 k) H (fun j => zfv E k j (h.2.1 c j) (h.2.2 c j))
  else H[E.2.2.1 + c]? = some (arrV (E.2.1 (k - 20)) n (fun j => zav E k (h.2.1 c j) (h.2.2 c j)))
def zRp (E : zE) (h : zH) (H : Heap) : Prop :=
  H.size = E.2.2.1 + h.1.length ∧ h.1[0]? = some (99, E.2.2.2.2.2.1) ∧ (∀ c k n, c ≠ 0 → h.1[c]? = some (k, n) → zat E h c k n H) ∧ (∀ c k n j, h.1[c]? = some (k, n) → zok (ztp k j) (h.2.2 c j)) ∧ (H[E.2.2.2.1]? = some E.2.2.2.2.1 ∧ E.2.2.2.1 ≤ E.2.2.1 ∧ ∀ j : Nat, j < E.2.2.2.2.2.1 → E.2.2.2.2.2.2 j = Int32.ofInt (h.2.2 0 j))
def zSf (E : zE) (H0 H : Heap) (locs : List Loc) : Prop := (∀ q : Nat, q ≤ E.2.2.1 → H[q]? = H0[q]?) ∧ (∀ l ∈ locs, E.2.2.1 < l.base) ∧ H0.size ≤ H.size
def zTys (E : zE) : List (ClassId × FieldType) := [(E.2.1 0, .int), (E.2.1 1, .char), (E.2.1 2, .boolean), (E.2.1 3, .long), (E.2.1 4, .object "ScopeLines$Rule"), (E.2.1 5, .object "ScopeLines$Line")]
def zSt (E : zE) (U : State) : Prop := va_K E.1 classes (zTys E) U ∧ (∀ w ∈ zNW, va_Nw w U) ∧ (va_AO "ScopeLines$Rule" U ∧ va_AO "ScopeLines$Line" U) ∧ U.isArrayOf E.2.2.2.2.1 .int ∧ E.2.2.2.2.1.vm ≠ .unknown ∧ E.2.2.2.2.1.slots.size = E.2.2.2.2.2.1 ∧ ∀ j : Nat, j < E.2.2.2.2.2.1 → E.2.2.2.2.1.slots[j]? = some (.int (E.2.2.2.2.2.2 j))
def zgood (w : Cond) : Bool := (w.onTables && w.keeps) || (match w with | .arrayClass _ => true | _ => false)
def zGW : List Cond := lw_tbl.filter zgood
theorem zgood_or {w : Cond} (h : zgood w = true) : (w.onTables && w.keeps) = true ∨ ∃ ty, w = .arrayClass ty := by
  unfold zgood at h
  rcases Bool.or_eq_true _ _ ▸ h with h | h
  · exact Or.inl h
  · cases w <;> first | exact Or.inr ⟨_, rfl⟩ | cases h
def zws (M : zM) : List Cond := .code M.1 M.2.1 M.2.2.1 M.2.2.2.1 :: zGW
theorem zGood {M : zM} (h : Cond.code M.1 M.2.1 M.2.2.1 M.2.2.2.1 ∈ zGW) : GoodIn zGW (zws M) := by
  intro w hw
  have h1 : w ∈ zGW := by
    rcases List.mem_cons.mp hw with rfl | h2
    · exact h
    · exact h2
  exact ⟨h1, zgood_or (List.mem_filter.mp h1).2⟩
theorem zSt.moved {E : zE} {s U : State} (hW : s.WarmedH U.vm) (h : zSt E s) : zSt E U := by
  obtain ⟨h1, h2, ⟨h3, h4⟩, h5, h6⟩ := h
  refine ⟨va_K.moved hW.alike h1, fun w hw => ?_, ⟨h3.moved hW.alike, h4.moved hW.alike⟩, State.isArrayOf_alike hW.alike h5, h6⟩
  have hn := zNW_nest w hw
  have hz := h2 w hw
  cases w <;> first | exact va_Nw.warmF hW hz | exact va_Nw.warmM hW hz | cases hn
def zCx (M : zM) (E : zE) (p : Program) (s : State) (m : MethodId) (args : Array Value) (meth : Method) (c : Code) : Prop :=
  p.tables.exec = Jvm.exec ∧ c.code = M.2.1 ∧ meth.sig.returnType = M.2.2.2.1 ∧ c.maxLocals = M.2.2.1 ∧ s.vm.findClass M.1.cls = some m.cls ∧ (∀ w ∈ zGW, w.before args s = true) ∧ zSt E s ∧ meth.locks = false ∧ meth.name = M.1.name
def zcn (v : zV) : Prop := match v.1 with
  | 0 => zi32 v.2
  | 1 => zi64 v.2
  | 2 => 0 < v.2
  | _ => True
def zcnS (st : List zV) : Prop := ∀ v ∈ st, zcn v
def zcnL (L : List (Nat × zV)) : Prop := ∀ q ∈ L, zcn q.2
def zcnO (o : Option zV) : Prop := ∀ v, o = some v → zcn v
/-- the answer is of the method's type -/
def zrt (M : zM) (o : Option zV) : Prop := match o with
  | none => M.2.2.2.1 = none
  | some v => (v.1 = 0 ∧ M.2.2.2.1 = some .int) ∨ (v.1 = 0 ∧ M.2.2.2.1 = some .boolean ∧ (v.2 = 0 ∨ v.2 = 1)) ∨ (v.1 = 2 ∧ ∃ C, M.2.2.2.1 = some (.object C))
def zri (o : Option zV) : Instr := match o with
  | none => .return_
  | some v => if v.1 = 0 then .ireturn else .areturn
def zG (M : zM) (E : zE) (p : Program) (R : Room) (s : State) (m : MethodId) (args : Array Value) (meth : Method) (c : Code) (L : List (Nat × zV)) (st : List zV) (h : zH) (H : Heap) (locs : List Loc) (cells slots n0 s0 : Nat) (ls : Array Slot) (r : Option zV × zH) : Prop :=
  zCx M E p s m args meth c ∧ (M.2.2.2.2.1 ≤ R.frames ∧ M.2.2.2.2.2 ≤ R.locals) ∧ lv_has ls M.2.2.1 (L.map fun q => (q.1, zcv E q.2)) ∧ zcnL L ∧ zcnS st ∧ zRp E h H ∧ zSf E s.heap H locs ∧ (cells + n0 = h.1.length ∧ slots + s0 = zsl h ∧ r.2.1.length ≤ R.cells + n0 ∧ zsl r.2 ≤ R.slots + s0)
def zF (M : zM) (E : zE) (p : Program) (l : Launch) (e : Env) (R : Room) (s : State) (m : MethodId) (args : Array Value) (below : List Frame) (meth : Method) (c : Code) (n0 s0 : Nat) (Q : State → Prop) (r : Option zV × zH) : Prop :=
  ∀ (pc : Nat) (ls : Array Slot) (H : Heap) (locs : List Loc) (cells slots : Nat), decode M.2.1 pc = .ok (zri r.1, 1) → zrt M r.1 → zcnO r.1 → zRp E r.2 H → zSf E s.heap H locs → cells + n0 = r.2.1.length → slots + s0 = zsl r.2 →
    W p l e R s m args below meth c H locs cells slots Q (F0 m pc ls (r.1.toList.map (zcv E)))
/-- from this frame the method comes to its return, with r -/
def zK (M : zM) (pc : Nat) (L : List (Nat × zV)) (st : List zV) (h : zH) (r : Option zV × zH) : Prop :=
  (h.1.length ≤ r.2.1.length ∧ zsl h ≤ zsl r.2) ∧
  ∀ (E : zE) (p : Program) (l : Launch) (e : Env) (R : Room) (s : State) (m : MethodId) (args : Array Value) (below : List Frame) (meth : Method) (c : Code) (H : Heap) (locs : List Loc) (cells slots n0 s0 : Nat) (Q : State → Prop) (ls : Array Slot),
    zG M E p R s m args meth c L st h H locs cells slots n0 s0 ls r → zF M E p l e R s m args below meth c n0 s0 Q r →
    W p l e R s m args below meth c H locs cells slots Q (F0 m pc ls (st.map (zcv E)))
def zPc (E : zE) (as : List zV) (h : zH) : Array Value → State → Prop := fun v U => v = (as.map (zcv E)).toArray ∧ zRp E h U.heap ∧ zSt E U
def zQc (E : zE) (r : Option zV × zH) : Array Value → State → Outcome → State → Prop := fun _ st oc t => oc = .returned (r.1.map (zcv E)) ∧ zcnO r.1 ∧ zRp E r.2 t.heap ∧ (∀ q : Nat, q ≤ E.2.2.1 → t.heap[q]? = st.heap[q]?) ∧ st.heap.size ≤ t.heap.size
/-- the method's contract at these arguments and this heap: it comes back with r -/
def zMt (M : zM) (as : List zV) (h : zH) (r : Option zV × zH) : Prop :=
  (h.1.length ≤ r.2.1.length ∧ zsl h ≤ zsl r.2) ∧ (zcnS as → ∀ (E : zE) (l : Launch), Met l M.1 (zws M) { frames := M.2.2.2.2.1, cells := r.2.1.length - h.1.length, slots := zsl r.2 - zsl h, locals := M.2.2.2.2.2 } (zPc E as h) (zQc E r) (r.2.1.length - h.1.length) (zsl r.2 - zsl h) (fun q => E.2.2.1 < q))
theorem zRp.sz {E : zE} {h : zH} {H : Heap} (hR : zRp E h H) {c k n : Nat} (hc : h.1[c]? = some (k, n)) : E.2.2.1 + c < H.size := by
  rw [hR.1]
  have := (List.getElem?_eq_some_iff.mp hc).1
  omega
theorem zRp.c0 {E : zE} {h : zH} {H : Heap} (hR : zRp E h H) {c k n : Nat} (hc : h.1[c]? = some (k, n)) (hk : k ≠ 99) : c ≠ 0 := by
  intro h0
  subst h0
  have := hR.2.1.symm.trans hc
  simp at this
  exact hk this.1.symm
theorem zcnS.cons {v : zV} {st : List zV} (h1 : zcn v) (h2 : zcnS st) : zcnS (v :: st) := by
  intro w hw
  rcases List.mem_cons.mp hw with rfl | h
  · exact h1
  · exact h2 w h
theorem zcnS.tail {v : zV} {st : List zV} (h : zcnS (v :: st)) : zcnS st := fun w hw => h w (List.mem_cons_of_mem _ hw)
theorem zcnS.head {v : zV} {st : List zV} (h : zcnS (v :: st)) : zcn v := h v List.mem_cons_self
theorem zcn_ne {c : Nat} (h : zcn (2, (c : Int))) : c ≠ 0 := by
  have h : 0 < (c : Int) := h
  omega
theorem zcn_of {c : Nat} (h : c ≠ 0) : zcn (2, (c : Int)) := by
  show 0 < (c : Int)
  omega
section ZG
variable {M : zM} {E : zE} {p : Program} {l : Launch} {e : Env} {R : Room} {s : State} {m : MethodId} {args : Array Value} {below : List Frame} {meth : Method} {c : Code} {L : List (Nat × zV)} {st : List zV} {h : zH} {H : Heap} {locs : List Loc} {cells slots n0 s0 : Nat} {ls : Array Slot} {r : Option zV × zH}
theorem zG.hx (g : zG M E p R s m args meth c L st h H locs cells slots n0 s0 ls r) : p.tables.exec = Jvm.exec := g.1.1
theorem zG.hb (g : zG M E p R s m args meth c L st h H locs cells slots n0 s0 ls r) : c.code = M.2.1 := g.1.2.1
theorem zG.hml (g : zG M E p R s m args meth c L st h H locs cells slots n0 s0 ls r) : c.maxLocals = M.2.2.1 := g.1.2.2.2.1
theorem zG.own (g : zG M E p R s m args meth c L st h H locs cells slots n0 s0 ls r) : s.vm.findClass M.1.cls = some m.cls := g.1.2.2.2.2.1
theorem zG.hts (g : zG M E p R s m args meth c L st h H locs cells slots n0 s0 ls r) : ∀ w ∈ zGW, w.before args s = true := g.1.2.2.2.2.2.1
theorem zG.hst (g : zG M E p R s m args meth c L st h H locs cells slots n0 s0 ls r) : zSt E s := g.1.2.2.2.2.2.2.1
theorem zG.hK (g : zG M E p R s m args meth c L st h H locs cells slots n0 s0 ls r) : va_K E.1 classes (zTys E) s := g.1.2.2.2.2.2.2.1.1
theorem zG.nm (g : zG M E p R s m args meth c L st h H locs cells slots n0 s0 ls r) : meth.name = M.1.name := g.1.2.2.2.2.2.2.2.2
theorem zG.lv (g : zG M E p R s m args meth c L st h H locs cells slots n0 s0 ls r) : lv_has ls M.2.2.1 (L.map fun q => (q.1, zcv E q.2)) := g.2.2.1
theorem zG.cnL (g : zG M E p R s m args meth c L st h H locs cells slots n0 s0 ls r) : zcnL L := g.2.2.2.1
theorem zG.cnS (g : zG M E p R s m args meth c L st h H locs cells slots n0 s0 ls r) : zcnS st := g.2.2.2.2.1
theorem zG.rp (g : zG M E p R s m args meth c L st h H locs cells slots n0 s0 ls r) : zRp E h H := g.2.2.2.2.2.1
theorem zG.sf (g : zG M E p R s m args meth c L st h H locs cells slots n0 s0 ls r) : zSf E s.heap H locs := g.2.2.2.2.2.2.1
theorem zG.stk (g : zG M E p R s m args meth c L st h H locs cells slots n0 s0 ls r) {st' : List zV} (hs : zcnS st') : zG M E p R s m args meth c L st' h H locs cells slots n0 s0 ls r :=
  ⟨g.1, g.2.1, g.2.2.1, g.2.2.2.1, hs, g.2.2.2.2.2⟩
theorem zG.loc (g : zG M E p R s m args meth c L st h H locs cells slots n0 s0 ls r) {st' : List zV} (hs : zcnS st') {L' : List (Nat × zV)} {ls' : Array Slot} (hl : lv_has ls' M.2.2.1 (L'.map fun q => (q.1, zcv E q.2))) (hc : zcnL L') : zG M E p R s m args meth c L' st' h H locs cells slots n0 s0 ls' r :=
  ⟨g.1, g.2.1, hl, hc, hs, g.2.2.2.2.2⟩
theorem zG.hp (g : zG M E p R s m args meth c L st h H locs cells slots n0 s0 ls r) {st' : List zV} (hs : zcnS st') {h' : zH} {H' : Heap} {locs' : List Loc} {cells' slots' : Nat} (hr : zRp E h' H') (hf : zSf E s.heap H' locs') (h1 : cells' + n0 = h'.1.length) (h2 : slots' + s0 = zsl h') : zG M E p R s m args meth c L st' h' H' locs' cells' slots' n0 s0 ls r :=
  ⟨g.1, g.2.1, g.2.2.1, g.2.2.2.1, hs, hr, hf, h1, h2, g.2.2.2.2.2.2.2.2.2⟩
end ZG
end
section
/-! Rows: instructions that touch the stack and the locals alone. -/
theorem zgo {M : zM} {E : zE} {p : Program} {l : Launch} {e : Env} {R : Room} {s : State} {m : MethodId} {args : Array Value} {below : List Frame} {meth : Method} {c : Code} {L : List (Nat × zV)} {st st' : List zV} {h : zH} {H : Heap} {locs : List Loc} {cells slots n0 s0 : Nat} {Q : State → Prop} {ls : Array Slot} {r : Option zV × zH} {pc : Nat}
    (k : zK M pc L st' h r) (g : zG M E p R s m args meth c L st h H locs cells slots n0 s0 ls r) (f : zF M E p l e R s m args below meth c n0 s0 Q r) (hs : zcnS st') {v : List Value} (hv : st'.map (zcv E) = v) : W p l e R s m args below meth c H locs cells slots Q (F0 m pc ls v) :=
  hv ▸ k.2 E p l e R s m args below meth c H locs cells slots n0 s0 Q ls (g.stk hs) f
theorem zcn_l {L : List (Nat × zV)} (hL : zcnL L) {i : Nat} {v : zV} (hi : (i, v) ∈ L) : zcn v := hL _ hi
theorem zlv {E : zE} {ls : Array Slot} {nL : Nat} {L : List (Nat × zV)} (h : lv_has ls nL (L.map fun q => (q.1, zcv E q.2))) {i : Nat} {v : zV} (hi : (i, v) ∈ L) : ls[i]? = some (.val (zcv E v)) := h.2.2 (i, zcv E v) (List.mem_map.mpr ⟨(i, v), hi, rfl⟩)
theorem zvI (E : zE) (x : Int) : zcv E (0, x) = .int (Int32.ofInt x) := rfl
theorem zvL (E : zE) (x : Int) : zcv E (1, x) = .long (Int64.ofInt x) := rfl
theorem zvR (E : zE) (c : Nat) : zcv E (2, (c : Int)) = zrf E c := rfl
theorem zrf_ne {E : zE} {c : Nat} (h : c ≠ 0) : zrf E c = .ref (E.2.2.1 + c) := if_neg h
theorem zcat (E : zE) (v : zV) : ((zcv E v).category == 2) = (v.1 == 1) := by
  obtain ⟨t, x⟩ := v
  match t with
  | 0 => rfl
  | 1 => rfl
  | 2 =>
    show ((zrf E x.toNat).category == 2) = false
    unfold zrf
    split <;> rfl
  | (n + 3) => rfl
def zst1 (i : Nat) (v : zV) (L : List (Nat × zV)) : List (Nat × zV) := (i, v) :: L.filter (fun q => !(q.1 == i) && !(q.1 + 1 == i && q.2.1 == 1))
def zst2 (i : Nat) (v : zV) (L : List (Nat × zV)) : List (Nat × zV) := (i, v) :: L.filter (fun q => !(q.1 == i) && (!(q.1 == i + 1) && !(q.1 + 1 == i && q.2.1 == 1)))
theorem zst1_map (E : zE) (i : Nat) (v : zV) (L : List (Nat × zV)) : (i, zcv E v) :: (L.map fun q => (q.1, zcv E q.2)).filter (fun q => !(q.1 == i) && !(q.1 + 1 == i && q.2.category == 2)) = (zst1 i v L).map fun q => (q.1, zcv E q.2) := by
  unfold zst1
  rw [List.map_cons, List.filter_map]
  congr 2
  apply List.filter_congr
  intro q _
  simp only [Function.comp, zcat]
theorem zst2_map (E : zE) (i : Nat) (v : zV) (L : List (Nat × zV)) : (i, zcv E v) :: (L.map fun q => (q.1, zcv E q.2)).filter (fun q => !(q.1 == i) && (!(q.1 == i + 1) && !(q.1 + 1 == i && q.2.category == 2))) = (zst2 i v L).map fun q => (q.1, zcv E q.2) := by
  unfold zst2
  rw [List.map_cons, List.filter_map]
  congr 2
  apply List.filter_congr
  intro q _
  simp only [Function.comp, zcat]
theorem zst1_cn {i : Nat} {v : zV} {L : List (Nat × zV)} (hv : zcn v) (hL : zcnL L) : zcnL (zst1 i v L) := by
  intro q hq
  rcases List.mem_cons.mp hq with rfl | h
  · exact hv
  · exact hL q (List.mem_filter.mp h).1
theorem zst2_cn {i : Nat} {v : zV} {L : List (Nat × zV)} (hv : zcn v) (hL : zcnL L) : zcnL (zst2 i v L) := by
  intro q hq
  rcases List.mem_cons.mp hq with rfl | h
  · exact hv
  · exact hL q (List.mem_filter.mp h).1
/-- fewer locals, in another order -/
theorem k_sub {M : zM} {pc : Nat} {L : List (Nat × zV)} {st : List zV} {h : zH} {r : Option zV × zH} {L' : List (Nat × zV)} (ks : List Nat) (hl : ks.filterMap (fun i => L[i]?) = L') (k : zK M pc L' st h r) : zK M pc L st h r := by
  have hin : ∀ q ∈ L', q ∈ L := by
    intro q hq
    rw [← hl] at hq
    obtain ⟨i, -, hi⟩ := List.mem_filterMap.mp hq
    exact List.mem_of_getElem? hi
  refine ⟨k.1, fun E p l e R s m args below meth c H locs cells slots n0 s0 Q ls g f =>  k.2 E p l e R s m args below meth c H locs cells slots n0 s0 Q ls (g.loc g.cnS ⟨g.lv.1, g.lv.2.1, fun q hq => ?_⟩ (fun q hq => g.cnL q (hin q hq))) f⟩
  obtain ⟨u, hu, rfl⟩ := List.mem_map.mp hq
  exact g.lv.2.2 _ (List.mem_map.mpr ⟨u, hin u hu, rfl⟩)
theorem zi2l {x : Int} (h : zcn (0, x)) : (Int32.ofInt x).toInt64 = Int64.ofInt x := by
  apply Int64.toInt_inj.mp
  rw [Int32.toInt_toInt64, zI_to h, zL_to]
  have h : zi32 x := h
  unfold zi32 at h
  unfold zi64
  omega
theorem zi2l_cn {x : Int} (h : zcn (0, x)) : zcn (1, x) := by
  have h : zi32 x := h
  show zi64 x
  unfold zi32 at h
  unfold zi64
  omega
theorem zl2i (x : Int) : (Int64.ofInt x).toInt32 = Int32.ofInt (zw x) := by
  rw [zI_w]
  exact Int64.toInt32_ofInt
theorem zi2c_cn (x : Int) : zcn (0, x % 65536) := by
  show zi32 _
  unfold zi32
  omega
theorem zi2c (x : Int) : ((Int32.ofInt x).toUInt32 % 65536).toInt32 = Int32.ofInt (x % 65536) := by
  rw [pk_char]
  unfold nI
  apply Int32.toBitVec_inj.mp
  apply BitVec.eq_of_toNat_eq
  simp
  omega
theorem zcat1 (E : zE) {v : zV} (h : v.1 = 0 ∨ v.1 = 2) : (zcv E v).category = 1 := by
  obtain ⟨t, x⟩ := v
  rcases h with h | h
  · cases h
    rfl
  · cases h
    show (zrf E x.toNat).category = 1
    unfold zrf
    split <;> rfl
theorem k_iconst {M : zM} {pc : Nat} {L : List (Nat × zV)} {st : List zV} {h : zH} {r : Option zV × zH} {n : Int} (hn : zi32 n) (hd : decode M.2.1 pc = .ok (.iconst n, 1)) (k : zK M (pc + 1) L ((0, n) :: st) h r) : zK M pc L (st) h r :=
  ⟨k.1, fun E p l e R s m args below meth c H locs cells slots n0 s0 Q ls g f => lv_iconst g.hx g.hb hd rfl (zgo k g f (g.cnS.cons hn) rfl)⟩
theorem k_bipush {M : zM} {pc : Nat} {L : List (Nat × zV)} {st : List zV} {h : zH} {r : Option zV × zH} {n : Int} (hn : zi32 n) (hv : (Int8.ofInt n).toInt32 = Int32.ofInt n) (hd : decode M.2.1 pc = .ok (.bipush n, 2)) (k : zK M (pc + 2) L ((0, n) :: st) h r) : zK M pc L (st) h r :=
  ⟨k.1, fun E p l e R s m args below meth c H locs cells slots n0 s0 Q ls g f => lv_bipush g.hx g.hb hd hv (zgo k g f (g.cnS.cons hn) rfl)⟩
theorem k_sipush {M : zM} {pc : Nat} {L : List (Nat × zV)} {st : List zV} {h : zH} {r : Option zV × zH} {n : Int} (hn : zi32 n) (hv : (Int16.ofInt n).toInt32 = Int32.ofInt n) (hd : decode M.2.1 pc = .ok (.sipush n, 3)) (k : zK M (pc + 3) L ((0, n) :: st) h r) : zK M pc L (st) h r :=
  ⟨k.1, fun E p l e R s m args below meth c H locs cells slots n0 s0 Q ls g f => lv_sipush g.hx g.hb hd hv (zgo k g f (g.cnS.cons hn) rfl)⟩
theorem k_lconst {M : zM} {pc : Nat} {L : List (Nat × zV)} {st : List zV} {h : zH} {r : Option zV × zH} {n : Fin 2} {x : Int} (hn : zi64 x) (hv : Int64.ofNat (n : Nat) = Int64.ofInt x) (hd : decode M.2.1 pc = .ok (.lconst n, 1)) (k : zK M (pc + 1) L ((1, x) :: st) h r) : zK M pc L (st) h r :=
  ⟨k.1, fun E p l e R s m args below meth c H locs cells slots n0 s0 Q ls g f => lv_lconst g.hx g.hb hd hv (zgo k g f (g.cnS.cons hn) rfl)⟩
theorem k_ldc2 {M : zM} {pc : Nat} {L : List (Nat × zV)} {st : List zV} {h : zH} {r : Option zV × zH} {i : Nat} {x : Int} (hn : zi64 x) (hw : Cond.constantLong M.1.cls i (Int64.ofInt x) ∈ zGW) (hd : decode M.2.1 pc = .ok (.ldc2_w i, 3)) (k : zK M (pc + 3) L ((1, x) :: st) h r) : zK M pc L (st) h r :=
  ⟨k.1, fun E p l e R s m args below meth c H locs cells slots n0 s0 Q ls g f => lv_ldc2 g.hx g.hb g.own (g.hts _ hw) hd (zgo k g f (g.cnS.cons hn) rfl)⟩
theorem k_iload_n {M : zM} {pc : Nat} {L : List (Nat × zV)} {st : List zV} {h : zH} {r : Option zV × zH} {n : Fin 4} {i : Nat} {x : Int} (hi : (n : Nat) = i) (hl : (i, ((0, x) : zV)) ∈ L) (hd : decode M.2.1 pc = .ok (.iload_n n, 1)) (k : zK M (pc + 1) L ((0, x) :: st) h r) : zK M pc L (st) h r :=
  ⟨k.1, fun E p l e R s m args below meth c H locs cells slots n0 s0 Q ls g f => lv_iload_n g.hx g.hb hd hi (zlv g.lv hl) (zgo k g f (g.cnS.cons (zcn_l g.cnL hl)) rfl)⟩
theorem k_iload {M : zM} {pc : Nat} {L : List (Nat × zV)} {st : List zV} {h : zH} {r : Option zV × zH} {i : Nat} {x : Int} (hl : (i, ((0, x) : zV)) ∈ L) (hd : decode M.2.1 pc = .ok (.iload i, 2)) (k : zK M (pc + 2) L ((0, x) :: st) h r) : zK M pc L (st) h r :=
  ⟨k.1, fun E p l e R s m args below meth c H locs cells slots n0 s0 Q ls g f => lv_iload g.hx g.hb hd (zlv g.lv hl) (zgo k g f (g.cnS.cons (zcn_l g.cnL hl)) rfl)⟩
theorem k_lload_n {M : zM} {pc : Nat} {L : List (Nat × zV)} {st : List zV} {h : zH} {r : Option zV × zH} {n : Fin 4} {i : Nat} {x : Int} (hi : (n : Nat) = i) (hl : (i, ((1, x) : zV)) ∈ L) (hd : decode M.2.1 pc = .ok (.lload_n n, 1)) (k : zK M (pc + 1) L ((1, x) :: st) h r) : zK M pc L (st) h r :=
  ⟨k.1, fun E p l e R s m args below meth c H locs cells slots n0 s0 Q ls g f => lv_lload_n g.hx g.hb hd hi (zlv g.lv hl) (zgo k g f (g.cnS.cons (zcn_l g.cnL hl)) rfl)⟩
theorem k_lload {M : zM} {pc : Nat} {L : List (Nat × zV)} {st : List zV} {h : zH} {r : Option zV × zH} {i : Nat} {x : Int} (hl : (i, ((1, x) : zV)) ∈ L) (hd : decode M.2.1 pc = .ok (.lload i, 2)) (k : zK M (pc + 2) L ((1, x) :: st) h r) : zK M pc L (st) h r :=
  ⟨k.1, fun E p l e R s m args below meth c H locs cells slots n0 s0 Q ls g f => lv_lload g.hx g.hb hd (zlv g.lv hl) (zgo k g f (g.cnS.cons (zcn_l g.cnL hl)) rfl)⟩
theorem k_aload_n {M : zM} {pc : Nat} {L : List (Nat × zV)} {st : List zV} {h : zH} {r : Option zV × zH} {n : Fin 4} {i c' : Nat} (hi : (n : Nat) = i) (hl : (i, ((2, (c' : Int)) : zV)) ∈ L) (hd : decode M.2.1 pc = .ok (.aload_n n, 1)) (k : zK M (pc + 1) L ((2, (c' : Int)) :: st) h r) : zK M pc L (st) h r :=
  ⟨k.1, fun E p l e R s m args below meth c H locs cells slots n0 s0 Q ls g f => lv_aload_n (x := E.2.2.1 + c') g.hx g.hb hd hi (by have := zlv g.lv hl; rw [zvR, zrf_ne (zcn_ne (zcn_l g.cnL hl))] at this; exact this) (zgo k g f (g.cnS.cons (zcn_l g.cnL hl)) (by rw [List.map_cons, zvR, zrf_ne (zcn_ne (zcn_l g.cnL hl))]))⟩
theorem k_aload {M : zM} {pc : Nat} {L : List (Nat × zV)} {st : List zV} {h : zH} {r : Option zV × zH} {i c' : Nat} (hl : (i, ((2, (c' : Int)) : zV)) ∈ L) (hd : decode M.2.1 pc = .ok (.aload i, 2)) (k : zK M (pc + 2) L ((2, (c' : Int)) :: st) h r) : zK M pc L (st) h r :=
  ⟨k.1, fun E p l e R s m args below meth c H locs cells slots n0 s0 Q ls g f => lv_aload (x := E.2.2.1 + c') g.hx g.hb hd (by have := zlv g.lv hl; rw [zvR, zrf_ne (zcn_ne (zcn_l g.cnL hl))] at this; exact this) (zgo k g f (g.cnS.cons (zcn_l g.cnL hl)) (by rw [List.map_cons, zvR, zrf_ne (zcn_ne (zcn_l g.cnL hl))]))⟩
theorem k_aload_s {M : zM} {pc : Nat} {L : List (Nat × zV)} {st : List zV} {h : zH} {r : Option zV × zH} {n : Fin 4} {i : Nat} (hi : (n : Nat) = i) (hl : (i, ((3, 0) : zV)) ∈ L) (hd : decode M.2.1 pc = .ok (.aload_n n, 1)) (k : zK M (pc + 1) L ((3, 0) :: st) h r) : zK M pc L (st) h r :=
  ⟨k.1, fun E p l e R s m args below meth c H locs cells slots n0 s0 Q ls g f => lv_aload_n (x := E.2.2.2.1) g.hx g.hb hd hi (zlv g.lv hl) (zgo k g f (g.cnS.cons trivial) rfl)⟩
theorem k_istore_n {M : zM} {pc : Nat} {L : List (Nat × zV)} {st : List zV} {h : zH} {r : Option zV × zH} {L' : List (Nat × zV)} {n : Fin 4} {i : Nat} {x : Int} (hi : (n : Nat) = i) (hd : decode M.2.1 pc = .ok (.istore_n n, 1)) (hn : i < M.2.2.1) (hL : zst1 i (0, x) L = L') (k : zK M (pc + 1) L' st h r) : zK M pc L ((0, x) :: st) h r := by
  subst hL
  exact ⟨k.1, fun E p l e R s m args below meth c H locs cells slots n0 s0 Q ls g f => lv_istore_n (x := Int32.ofInt x) g.hx g.hb hd hi g.lv hn (zst1_map E i (0, x) L) (fun ls' hl' => k.2 E p l e R s m args below meth c H locs cells slots n0 s0 Q ls' (g.loc g.cnS.tail hl' (zst1_cn g.cnS.head g.cnL)) f)⟩
theorem k_istore {M : zM} {pc : Nat} {L : List (Nat × zV)} {st : List zV} {h : zH} {r : Option zV × zH} {L' : List (Nat × zV)} {i : Nat} {x : Int} (hd : decode M.2.1 pc = .ok (.istore i, 2)) (hn : i < M.2.2.1) (hL : zst1 i (0, x) L = L') (k : zK M (pc + 2) L' st h r) : zK M pc L ((0, x) :: st) h r := by
  subst hL
  exact ⟨k.1, fun E p l e R s m args below meth c H locs cells slots n0 s0 Q ls g f => lv_istore (x := Int32.ofInt x) g.hx g.hb hd g.lv hn (zst1_map E i (0, x) L) (fun ls' hl' => k.2 E p l e R s m args below meth c H locs cells slots n0 s0 Q ls' (g.loc g.cnS.tail hl' (zst1_cn g.cnS.head g.cnL)) f)⟩
theorem k_lstore {M : zM} {pc : Nat} {L : List (Nat × zV)} {st : List zV} {h : zH} {r : Option zV × zH} {L' : List (Nat × zV)} {i : Nat} {x : Int} (hd : decode M.2.1 pc = .ok (.lstore i, 2)) (hn : i + 1 < M.2.2.1) (hL : zst2 i (1, x) L = L') (k : zK M (pc + 2) L' st h r) : zK M pc L ((1, x) :: st) h r := by
  subst hL
  exact ⟨k.1, fun E p l e R s m args below meth c H locs cells slots n0 s0 Q ls g f => lv_lstore (x := Int64.ofInt x) g.hx g.hb hd g.lv hn (zst2_map E i (1, x) L) (fun ls' hl' => k.2 E p l e R s m args below meth c H locs cells slots n0 s0 Q ls' (g.loc g.cnS.tail hl' (zst2_cn g.cnS.head g.cnL)) f)⟩
theorem k_lstore_n {M : zM} {pc : Nat} {L : List (Nat × zV)} {st : List zV} {h : zH} {r : Option zV × zH} {L' : List (Nat × zV)} {n : Fin 4} {i : Nat} {x : Int} (hi : (n : Nat) = i) (hd : decode M.2.1 pc = .ok (.lstore_n n, 1)) (hn : i + 1 < M.2.2.1) (hL : zst2 i (1, x) L = L') (k : zK M (pc + 1) L' st h r) : zK M pc L ((1, x) :: st) h r := by
  subst hL
  exact ⟨k.1, fun E p l e R s m args below meth c H locs cells slots n0 s0 Q ls g f => lv_lstore_n (x := Int64.ofInt x) g.hx g.hb hd hi g.lv hn (zst2_map E i (1, x) L) (fun ls' hl' => k.2 E p l e R s m args below meth c H locs cells slots n0 s0 Q ls' (g.loc g.cnS.tail hl' (zst2_cn g.cnS.head g.cnL)) f)⟩
theorem k_astore_n {M : zM} {pc : Nat} {L : List (Nat × zV)} {st : List zV} {h : zH} {r : Option zV × zH} {L' : List (Nat × zV)} {n : Fin 4} {i c' : Nat} (hi : (n : Nat) = i) (hd : decode M.2.1 pc = .ok (.astore_n n, 1)) (hn : i < M.2.2.1) (hL : zst1 i (2, (c' : Int)) L = L') (k : zK M (pc + 1) L' st h r) : zK M pc L ((2, (c' : Int)) :: st) h r := by
  subst hL
  refine ⟨k.1, fun E p l e R s m args below meth c H locs cells slots n0 s0 Q ls g f => ?_⟩
  have hc := zcn_ne g.cnS.head
  rw [List.map_cons, zvR, zrf_ne hc]
  have hz := zst1_map E i (2, (c' : Int)) L
  rw [zvR, zrf_ne hc] at hz
  exact lv_astore_n (x := E.2.2.1 + c') g.hx g.hb hd hi g.lv hn hz (fun ls' hl' => k.2 E p l e R s m args below meth c H locs cells slots n0 s0 Q ls' (g.loc g.cnS.tail hl' (zst1_cn g.cnS.head g.cnL)) f)
theorem k_astore {M : zM} {pc : Nat} {L : List (Nat × zV)} {st : List zV} {h : zH} {r : Option zV × zH} {L' : List (Nat × zV)} {i c' : Nat} (hd : decode M.2.1 pc = .ok (.astore i, 2)) (hn : i < M.2.2.1) (hL : zst1 i (2, (c' : Int)) L = L') (k : zK M (pc + 2) L' st h r) : zK M pc L ((2, (c' : Int)) :: st) h r := by
  subst hL
  refine ⟨k.1, fun E p l e R s m args below meth c H locs cells slots n0 s0 Q ls g f => ?_⟩
  have hc := zcn_ne g.cnS.head
  rw [List.map_cons, zvR, zrf_ne hc]
  have hz := zst1_map E i (2, (c' : Int)) L
  rw [zvR, zrf_ne hc] at hz
  exact lv_astore (x := E.2.2.1 + c') g.hx g.hb hd g.lv hn hz (fun ls' hl' => k.2 E p l e R s m args below meth c H locs cells slots n0 s0 Q ls' (g.loc g.cnS.tail hl' (zst1_cn g.cnS.head g.cnL)) f)
theorem k_iinc {M : zM} {pc : Nat} {L : List (Nat × zV)} {st : List zV} {h : zH} {r : Option zV × zH} {L' : List (Nat × zV)} {i : Nat} {n x : Int} (hl : (i, ((0, x) : zV)) ∈ L) (hd : decode M.2.1 pc = .ok (.iinc i n, 3)) (hn : i < M.2.2.1) (hL : zst1 i (0, zw (x + n)) L = L') (k : zK M (pc + 3) L' st h r) : zK M pc L st h r := by
  subst hL
  refine ⟨k.1, fun E p l e R s m args below meth c H locs cells slots n0 s0 Q ls g f => ?_⟩
  obtain ⟨q, hq⟩ := List.getElem?_of_mem (List.mem_map.mpr ⟨_, hl, rfl⟩ : (i, zcv E (0, x)) ∈ L.map fun q => (q.1, zcv E q.2))
  have hz := zst1_map E i (0, zw (x + n)) L
  exact lv_iinc (x := Int32.ofInt x) (v := Int32.ofInt (zw (x + n))) g.hx g.hb hd g.lv hq (by rw [zI_w, Int32.ofInt_add]) hn hz (fun ls' hl' => k.2 E p l e R s m args below meth c H locs cells slots n0 s0 Q ls' (g.loc g.cnS hl' (zst1_cn (zi_w _) g.cnL)) f)
theorem k_iadd {M : zM} {pc : Nat} {L : List (Nat × zV)} {st : List zV} {h : zH} {r : Option zV × zH} {x y : Int} (hd : decode M.2.1 pc = .ok (.iadd, 1)) (k : zK M (pc + 1) L ((0, zw (x + y)) :: st) h r) : zK M pc L ((0, y) :: (0, x) :: st) h r :=
  ⟨k.1, fun E p l e R s m args below meth c H locs cells slots n0 s0 Q ls g f => lv_iadd (x := Int32.ofInt x) (y := Int32.ofInt y) g.hx g.hb hd (zgo k g f (g.cnS.tail.tail.cons (zi_w _)) (by rw [List.map_cons, zvI, zI_w, Int32.ofInt_add]))⟩
theorem k_isub {M : zM} {pc : Nat} {L : List (Nat × zV)} {st : List zV} {h : zH} {r : Option zV × zH} {x y : Int} (hd : decode M.2.1 pc = .ok (.isub, 1)) (k : zK M (pc + 1) L ((0, zw (x - y)) :: st) h r) : zK M pc L ((0, y) :: (0, x) :: st) h r :=
  ⟨k.1, fun E p l e R s m args below meth c H locs cells slots n0 s0 Q ls g f => lv_isub (x := Int32.ofInt x) (y := Int32.ofInt y) g.hx g.hb hd (zgo k g f (g.cnS.tail.tail.cons (zi_w _)) (by rw [List.map_cons, zvI, zI_w, Int32.ofInt_sub]))⟩
theorem k_imul {M : zM} {pc : Nat} {L : List (Nat × zV)} {st : List zV} {h : zH} {r : Option zV × zH} {x y : Int} (hd : decode M.2.1 pc = .ok (.imul, 1)) (k : zK M (pc + 1) L ((0, zw (x * y)) :: st) h r) : zK M pc L ((0, y) :: (0, x) :: st) h r :=
  ⟨k.1, fun E p l e R s m args below meth c H locs cells slots n0 s0 Q ls g f => lv_imul (x := Int32.ofInt x) (y := Int32.ofInt y) g.hx g.hb hd (zgo k g f (g.cnS.tail.tail.cons (zi_w _)) (by rw [List.map_cons, zvI, zI_w, Int32.ofInt_mul]))⟩
theorem k_iand {M : zM} {pc : Nat} {L : List (Nat × zV)} {st : List zV} {h : zH} {r : Option zV × zH} {x y : Int} (hd : decode M.2.1 pc = .ok (.iand, 1)) (k : zK M (pc + 1) L ((0, z_and x y) :: st) h r) : zK M pc L ((0, y) :: (0, x) :: st) h r :=
  ⟨k.1, fun E p l e R s m args below meth c H locs cells slots n0 s0 Q ls g f => lv_iand (x := Int32.ofInt x) (y := Int32.ofInt y) g.hx g.hb hd (zgo k g f (g.cnS.tail.tail.cons (zi_to _)) (by rw [List.map_cons, zvI]; unfold z_and; rw [zI_of]))⟩
theorem k_ineg {M : zM} {pc : Nat} {L : List (Nat × zV)} {st : List zV} {h : zH} {r : Option zV × zH} {x : Int} (hd : decode M.2.1 pc = .ok (.ineg, 1)) (k : zK M (pc + 1) L ((0, zw (-x)) :: st) h r) : zK M pc L ((0, x) :: st) h r :=
  ⟨k.1, fun E p l e R s m args below meth c H locs cells slots n0 s0 Q ls g f => lv_ineg (x := Int32.ofInt x) g.hx g.hb hd (zgo k g f (g.cnS.tail.cons (zi_w _)) (by rw [List.map_cons, zvI, zI_w, Int32.ofInt_neg]))⟩
theorem k_i2l {M : zM} {pc : Nat} {L : List (Nat × zV)} {st : List zV} {h : zH} {r : Option zV × zH} {x : Int} (hd : decode M.2.1 pc = .ok (.i2l, 1)) (k : zK M (pc + 1) L ((1, x) :: st) h r) : zK M pc L ((0, x) :: st) h r :=
  ⟨k.1, fun E p l e R s m args below meth c H locs cells slots n0 s0 Q ls g f => lv_i2l (x := Int32.ofInt x) (v := Int64.ofInt x) g.hx g.hb hd (zi2l g.cnS.head) (zgo k g f (g.cnS.tail.cons (zi2l_cn g.cnS.head)) rfl)⟩
theorem k_l2i {M : zM} {pc : Nat} {L : List (Nat × zV)} {st : List zV} {h : zH} {r : Option zV × zH} {x : Int} (hd : decode M.2.1 pc = .ok (.l2i, 1)) (k : zK M (pc + 1) L ((0, zw x) :: st) h r) : zK M pc L ((1, x) :: st) h r :=
  ⟨k.1, fun E p l e R s m args below meth c H locs cells slots n0 s0 Q ls g f => lv_l2i (x := Int64.ofInt x) (v := Int32.ofInt (zw x)) g.hx g.hb hd (zl2i x) (zgo k g f (g.cnS.tail.cons (zi_w _)) rfl)⟩
theorem k_i2c {M : zM} {pc : Nat} {L : List (Nat × zV)} {st : List zV} {h : zH} {r : Option zV × zH} {x : Int} (hd : decode M.2.1 pc = .ok (.i2c, 1)) (k : zK M (pc + 1) L ((0, x % 65536) :: st) h r) : zK M pc L ((0, x) :: st) h r :=
  ⟨k.1, fun E p l e R s m args below meth c H locs cells slots n0 s0 Q ls g f => lv_i2c (x := Int32.ofInt x) (v := Int32.ofInt (x % 65536)) g.hx g.hb hd (zi2c x) (zgo k g f (g.cnS.tail.cons (zi2c_cn x)) rfl)⟩
theorem k_land {M : zM} {pc : Nat} {L : List (Nat × zV)} {st : List zV} {h : zH} {r : Option zV × zH} {x y : Int} (hd : decode M.2.1 pc = .ok (.land, 1)) (k : zK M (pc + 1) L ((1, z_land x y) :: st) h r) : zK M pc L ((1, y) :: (1, x) :: st) h r :=
  ⟨k.1, fun E p l e R s m args below meth c H locs cells slots n0 s0 Q ls g f => lv_land (x := Int64.ofInt x) (y := Int64.ofInt y) g.hx g.hb hd (zgo k g f (g.cnS.tail.tail.cons (zi_toL _)) (by rw [List.map_cons, zvL]; unfold z_land; rw [zL_of]))⟩
theorem k_lor {M : zM} {pc : Nat} {L : List (Nat × zV)} {st : List zV} {h : zH} {r : Option zV × zH} {x y : Int} (hd : decode M.2.1 pc = .ok (.lor, 1)) (k : zK M (pc + 1) L ((1, z_lor x y) :: st) h r) : zK M pc L ((1, y) :: (1, x) :: st) h r :=
  ⟨k.1, fun E p l e R s m args below meth c H locs cells slots n0 s0 Q ls g f => lv_lor (x := Int64.ofInt x) (y := Int64.ofInt y) g.hx g.hb hd (zgo k g f (g.cnS.tail.tail.cons (zi_toL _)) (by rw [List.map_cons, zvL]; unfold z_lor; rw [zL_of]))⟩
theorem k_lxor {M : zM} {pc : Nat} {L : List (Nat × zV)} {st : List zV} {h : zH} {r : Option zV × zH} {x y : Int} (hd : decode M.2.1 pc = .ok (.lxor, 1)) (k : zK M (pc + 1) L ((1, z_lxor x y) :: st) h r) : zK M pc L ((1, y) :: (1, x) :: st) h r :=
  ⟨k.1, fun E p l e R s m args below meth c H locs cells slots n0 s0 Q ls g f => lv_lxor (x := Int64.ofInt x) (y := Int64.ofInt y) g.hx g.hb hd (zgo k g f (g.cnS.tail.tail.cons (zi_toL _)) (by rw [List.map_cons, zvL]; unfold z_lxor; rw [zL_of]))⟩
theorem k_lshl {M : zM} {pc : Nat} {L : List (Nat × zV)} {st : List zV} {h : zH} {r : Option zV × zH} {x y : Int} (hd : decode M.2.1 pc = .ok (.lshl, 1)) (k : zK M (pc + 1) L ((1, z_lshl x y) :: st) h r) : zK M pc L ((0, y) :: (1, x) :: st) h r :=
  ⟨k.1, fun E p l e R s m args below meth c H locs cells slots n0 s0 Q ls g f => lv_lshl (x := Int64.ofInt x) (y := Int32.ofInt y) g.hx g.hb hd rfl (zgo k g f (g.cnS.tail.tail.cons (zi_toL _)) (by rw [List.map_cons, zvL]; unfold z_lshl; rw [zL_of]))⟩
theorem k_lshr {M : zM} {pc : Nat} {L : List (Nat × zV)} {st : List zV} {h : zH} {r : Option zV × zH} {x y : Int} (hd : decode M.2.1 pc = .ok (.lshr, 1)) (k : zK M (pc + 1) L ((1, z_lshr x y) :: st) h r) : zK M pc L ((0, y) :: (1, x) :: st) h r :=
  ⟨k.1, fun E p l e R s m args below meth c H locs cells slots n0 s0 Q ls g f => lv_lshr (x := Int64.ofInt x) (y := Int32.ofInt y) g.hx g.hb hd rfl (zgo k g f (g.cnS.tail.tail.cons (zi_toL _)) (by rw [List.map_cons, zvL]; unfold z_lshr; rw [zL_of]))⟩
theorem k_lushr {M : zM} {pc : Nat} {L : List (Nat × zV)} {st : List zV} {h : zH} {r : Option zV × zH} {x y : Int} (hd : decode M.2.1 pc = .ok (.lushr, 1)) (k : zK M (pc + 1) L ((1, z_lushr x y) :: st) h r) : zK M pc L ((0, y) :: (1, x) :: st) h r :=
  ⟨k.1, fun E p l e R s m args below meth c H locs cells slots n0 s0 Q ls g f => lv_lushr (x := Int64.ofInt x) (y := Int32.ofInt y) g.hx g.hb hd rfl (zgo k g f (g.cnS.tail.tail.cons (zi_toL _)) (by rw [List.map_cons, zvL]; unfold z_lushr; rw [zL_of]))⟩
theorem k_dup {M : zM} {pc : Nat} {L : List (Nat × zV)} {st : List zV} {h : zH} {r : Option zV × zH} {v : zV} (hv : v.1 = 0 ∨ v.1 = 2) (hd : decode M.2.1 pc = .ok (.dup, 1)) (k : zK M (pc + 1) L (v :: v :: st) h r) : zK M pc L (v :: st) h r :=
  ⟨k.1, fun E p l e R s m args below meth c H locs cells slots n0 s0 Q ls g f => lv_dup g.hx g.hb hd (zcat1 E hv) (zgo k g f (g.cnS.cons g.cnS.head) rfl)⟩
theorem k_pop {M : zM} {pc : Nat} {L : List (Nat × zV)} {st : List zV} {h : zH} {r : Option zV × zH} {v : zV} (hv : v.1 = 0 ∨ v.1 = 2) (hd : decode M.2.1 pc = .ok (.pop, 1)) (k : zK M (pc + 1) L (st) h r) : zK M pc L (v :: st) h r :=
  ⟨k.1, fun E p l e R s m args below meth c H locs cells slots n0 s0 Q ls g f => lv_pop g.hx g.hb hd (zcat1 E hv) (zgo k g f g.cnS.tail rfl)⟩
theorem k_dup2 {M : zM} {pc : Nat} {L : List (Nat × zV)} {st : List zV} {h : zH} {r : Option zV × zH} {v w : zV} (hv : v.1 = 0 ∨ v.1 = 2) (hw : w.1 = 0 ∨ w.1 = 2) (hd : decode M.2.1 pc = .ok (.dup2, 1)) (k : zK M (pc + 1) L (v :: w :: v :: w :: st) h r) : zK M pc L (v :: w :: st) h r :=
  ⟨k.1, fun E p l e R s m args below meth c H locs cells slots n0 s0 Q ls g f => lv_dup2_11 g.hx g.hb hd (zcat1 E hv) (zcat1 E hw) (zgo k g f ((g.cnS.cons g.cnS.tail.head).cons g.cnS.head) rfl)⟩
theorem zb0 {x : Int} (hx : zi32 x) : Int32.ofInt x = 0 ↔ x = 0 := by rw [← zI_0]; exact zI_eq hx (by unfold zi32; omega)
theorem zbl0 {x : Int} (hx : zi32 x) : Int32.ofInt x < 0 ↔ x < 0 := by rw [← zI_0]; exact zI_lt hx (by unfold zi32; omega)
theorem zbg0 {x : Int} (hx : zi32 x) : 0 < Int32.ofInt x ↔ 0 < x := by rw [← zI_0]; exact zI_lt (by unfold zi32; omega) hx
theorem zbL0 {x : Int} (hx : zi32 x) : Int32.ofInt x ≤ 0 ↔ x ≤ 0 := by rw [← zI_0]; exact zI_le hx (by unfold zi32; omega)
theorem zbG0 {x : Int} (hx : zi32 x) : 0 ≤ Int32.ofInt x ↔ 0 ≤ x := by rw [← zI_0]; exact zI_le (by unfold zi32; omega) hx
theorem k_if_eq_t {M : zM} {pc : Nat} {L : List (Nat × zV)} {st : List zV} {h : zH} {r : Option zV × zH} {x : Int} {off : Int} {tgt : Nat} (hc : x = 0) (hd : decode M.2.1 pc = .ok (.ifCond .eq off, 3)) (ht : (pc : Int) + off = (tgt : Int)) (k : zK M tgt L st h r) : zK M pc L ((0, x) :: st) h r :=
  ⟨k.1, fun E p l e R s m args below meth c H locs cells slots n0 s0 Q ls g f => lv_if_eq (x := Int32.ofInt x) g.hx g.hb hd ht (fun _ => zgo k g f g.cnS.tail rfl) (fun hn => absurd ((zb0 g.cnS.head).mpr hc) hn)⟩
theorem k_if_eq_f {M : zM} {pc : Nat} {L : List (Nat × zV)} {st : List zV} {h : zH} {r : Option zV × zH} {x : Int} {off : Int} {tgt : Nat} (hc : ¬ (x = 0)) (hd : decode M.2.1 pc = .ok (.ifCond .eq off, 3)) (ht : (pc : Int) + off = (tgt : Int)) (k : zK M (pc + 3) L st h r) : zK M pc L ((0, x) :: st) h r :=
  ⟨k.1, fun E p l e R s m args below meth c H locs cells slots n0 s0 Q ls g f => lv_if_eq (x := Int32.ofInt x) (tgt := tgt) g.hx g.hb hd ht (fun hp => absurd ((zb0 g.cnS.head).mp hp) hc) (fun _ => zgo k g f g.cnS.tail rfl)⟩
theorem k_ic_eq_t {M : zM} {pc : Nat} {L : List (Nat × zV)} {st : List zV} {h : zH} {r : Option zV × zH} {x y : Int} {off : Int} {tgt : Nat} (hc : x = y) (hd : decode M.2.1 pc = .ok (.if_icmp .eq off, 3)) (ht : (pc : Int) + off = (tgt : Int)) (k : zK M tgt L st h r) : zK M pc L ((0, y) :: (0, x) :: st) h r :=
  ⟨k.1, fun E p l e R s m args below meth c H locs cells slots n0 s0 Q ls g f => lv_icmp_eq (x := Int32.ofInt x) (y := Int32.ofInt y) g.hx g.hb hd ht (fun _ => zgo k g f g.cnS.tail.tail rfl) (fun hn => absurd ((zI_eq g.cnS.tail.head g.cnS.head).mpr hc) hn)⟩
theorem k_ic_eq_f {M : zM} {pc : Nat} {L : List (Nat × zV)} {st : List zV} {h : zH} {r : Option zV × zH} {x y : Int} {off : Int} {tgt : Nat} (hc : ¬ (x = y)) (hd : decode M.2.1 pc = .ok (.if_icmp .eq off, 3)) (ht : (pc : Int) + off = (tgt : Int)) (k : zK M (pc + 3) L st h r) : zK M pc L ((0, y) :: (0, x) :: st) h r :=
  ⟨k.1, fun E p l e R s m args below meth c H locs cells slots n0 s0 Q ls g f => lv_icmp_eq (x := Int32.ofInt x) (y := Int32.ofInt y) (tgt := tgt) g.hx g.hb hd ht (fun hp => absurd ((zI_eq g.cnS.tail.head g.cnS.head).mp hp) hc) (fun _ => zgo k g f g.cnS.tail.tail rfl)⟩
theorem k_if_ne_t {M : zM} {pc : Nat} {L : List (Nat × zV)} {st : List zV} {h : zH} {r : Option zV × zH} {x : Int} {off : Int} {tgt : Nat} (hc : ¬ x = 0) (hd : decode M.2.1 pc = .ok (.ifCond .ne off, 3)) (ht : (pc : Int) + off = (tgt : Int)) (k : zK M tgt L st h r) : zK M pc L ((0, x) :: st) h r :=
  ⟨k.1, fun E p l e R s m args below meth c H locs cells slots n0 s0 Q ls g f => lv_if_ne (x := Int32.ofInt x) g.hx g.hb hd ht (fun _ => zgo k g f g.cnS.tail rfl) (fun hn => absurd hn ((not_congr (zb0 g.cnS.head)).mpr hc))⟩
theorem k_if_ne_f {M : zM} {pc : Nat} {L : List (Nat × zV)} {st : List zV} {h : zH} {r : Option zV × zH} {x : Int} {off : Int} {tgt : Nat} (hc : x = 0) (hd : decode M.2.1 pc = .ok (.ifCond .ne off, 3)) (ht : (pc : Int) + off = (tgt : Int)) (k : zK M (pc + 3) L st h r) : zK M pc L ((0, x) :: st) h r :=
  ⟨k.1, fun E p l e R s m args below meth c H locs cells slots n0 s0 Q ls g f => lv_if_ne (x := Int32.ofInt x) (tgt := tgt) g.hx g.hb hd ht (fun hp => absurd hc ((not_congr (zb0 g.cnS.head)).mp hp)) (fun _ => zgo k g f g.cnS.tail rfl)⟩
theorem k_ic_ne_t {M : zM} {pc : Nat} {L : List (Nat × zV)} {st : List zV} {h : zH} {r : Option zV × zH} {x y : Int} {off : Int} {tgt : Nat} (hc : ¬ x = y) (hd : decode M.2.1 pc = .ok (.if_icmp .ne off, 3)) (ht : (pc : Int) + off = (tgt : Int)) (k : zK M tgt L st h r) : zK M pc L ((0, y) :: (0, x) :: st) h r :=
  ⟨k.1, fun E p l e R s m args below meth c H locs cells slots n0 s0 Q ls g f => lv_icmp_ne (x := Int32.ofInt x) (y := Int32.ofInt y) g.hx g.hb hd ht (fun _ => zgo k g f g.cnS.tail.tail rfl) (fun hn => absurd hn ((not_congr (zI_eq g.cnS.tail.head g.cnS.head)).mpr hc))⟩
theorem k_ic_ne_f {M : zM} {pc : Nat} {L : List (Nat × zV)} {st : List zV} {h : zH} {r : Option zV × zH} {x y : Int} {off : Int} {tgt : Nat} (hc : x = y) (hd : decode M.2.1 pc = .ok (.if_icmp .ne off, 3)) (ht : (pc : Int) + off = (tgt : Int)) (k : zK M (pc + 3) L st h r) : zK M pc L ((0, y) :: (0, x) :: st) h r :=
  ⟨k.1, fun E p l e R s m args below meth c H locs cells slots n0 s0 Q ls g f => lv_icmp_ne (x := Int32.ofInt x) (y := Int32.ofInt y) (tgt := tgt) g.hx g.hb hd ht (fun hp => absurd hc ((not_congr (zI_eq g.cnS.tail.head g.cnS.head)).mp hp)) (fun _ => zgo k g f g.cnS.tail.tail rfl)⟩
theorem k_if_lt_t {M : zM} {pc : Nat} {L : List (Nat × zV)} {st : List zV} {h : zH} {r : Option zV × zH} {x : Int} {off : Int} {tgt : Nat} (hc : x < 0) (hd : decode M.2.1 pc = .ok (.ifCond .lt off, 3)) (ht : (pc : Int) + off = (tgt : Int)) (k : zK M tgt L st h r) : zK M pc L ((0, x) :: st) h r :=
  ⟨k.1, fun E p l e R s m args below meth c H locs cells slots n0 s0 Q ls g f => lv_if_lt (x := Int32.ofInt x) g.hx g.hb hd ht (fun _ => zgo k g f g.cnS.tail rfl) (fun hn => absurd ((zbl0 g.cnS.head).mpr hc) hn)⟩
theorem k_if_lt_f {M : zM} {pc : Nat} {L : List (Nat × zV)} {st : List zV} {h : zH} {r : Option zV × zH} {x : Int} {off : Int} {tgt : Nat} (hc : ¬ (x < 0)) (hd : decode M.2.1 pc = .ok (.ifCond .lt off, 3)) (ht : (pc : Int) + off = (tgt : Int)) (k : zK M (pc + 3) L st h r) : zK M pc L ((0, x) :: st) h r :=
  ⟨k.1, fun E p l e R s m args below meth c H locs cells slots n0 s0 Q ls g f => lv_if_lt (x := Int32.ofInt x) (tgt := tgt) g.hx g.hb hd ht (fun hp => absurd ((zbl0 g.cnS.head).mp hp) hc) (fun _ => zgo k g f g.cnS.tail rfl)⟩
theorem k_ic_lt_t {M : zM} {pc : Nat} {L : List (Nat × zV)} {st : List zV} {h : zH} {r : Option zV × zH} {x y : Int} {off : Int} {tgt : Nat} (hc : x < y) (hd : decode M.2.1 pc = .ok (.if_icmp .lt off, 3)) (ht : (pc : Int) + off = (tgt : Int)) (k : zK M tgt L st h r) : zK M pc L ((0, y) :: (0, x) :: st) h r :=
  ⟨k.1, fun E p l e R s m args below meth c H locs cells slots n0 s0 Q ls g f => lv_icmp_lt (x := Int32.ofInt x) (y := Int32.ofInt y) g.hx g.hb hd ht (fun _ => zgo k g f g.cnS.tail.tail rfl) (fun hn => absurd ((zI_lt g.cnS.tail.head g.cnS.head).mpr hc) hn)⟩
theorem k_ic_lt_f {M : zM} {pc : Nat} {L : List (Nat × zV)} {st : List zV} {h : zH} {r : Option zV × zH} {x y : Int} {off : Int} {tgt : Nat} (hc : ¬ (x < y)) (hd : decode M.2.1 pc = .ok (.if_icmp .lt off, 3)) (ht : (pc : Int) + off = (tgt : Int)) (k : zK M (pc + 3) L st h r) : zK M pc L ((0, y) :: (0, x) :: st) h r :=
  ⟨k.1, fun E p l e R s m args below meth c H locs cells slots n0 s0 Q ls g f => lv_icmp_lt (x := Int32.ofInt x) (y := Int32.ofInt y) (tgt := tgt) g.hx g.hb hd ht (fun hp => absurd ((zI_lt g.cnS.tail.head g.cnS.head).mp hp) hc) (fun _ => zgo k g f g.cnS.tail.tail rfl)⟩
theorem k_if_ge_t {M : zM} {pc : Nat} {L : List (Nat × zV)} {st : List zV} {h : zH} {r : Option zV × zH} {x : Int} {off : Int} {tgt : Nat} (hc : 0 ≤ x) (hd : decode M.2.1 pc = .ok (.ifCond .ge off, 3)) (ht : (pc : Int) + off = (tgt : Int)) (k : zK M tgt L st h r) : zK M pc L ((0, x) :: st) h r :=
  ⟨k.1, fun E p l e R s m args below meth c H locs cells slots n0 s0 Q ls g f => lv_if_ge (x := Int32.ofInt x) g.hx g.hb hd ht (fun _ => zgo k g f g.cnS.tail rfl) (fun hn => absurd ((zbG0 g.cnS.head).mpr hc) hn)⟩
theorem k_if_ge_f {M : zM} {pc : Nat} {L : List (Nat × zV)} {st : List zV} {h : zH} {r : Option zV × zH} {x : Int} {off : Int} {tgt : Nat} (hc : ¬ (0 ≤ x)) (hd : decode M.2.1 pc = .ok (.ifCond .ge off, 3)) (ht : (pc : Int) + off = (tgt : Int)) (k : zK M (pc + 3) L st h r) : zK M pc L ((0, x) :: st) h r :=
  ⟨k.1, fun E p l e R s m args below meth c H locs cells slots n0 s0 Q ls g f => lv_if_ge (x := Int32.ofInt x) (tgt := tgt) g.hx g.hb hd ht (fun hp => absurd ((zbG0 g.cnS.head).mp hp) hc) (fun _ => zgo k g f g.cnS.tail rfl)⟩
theorem k_ic_ge_t {M : zM} {pc : Nat} {L : List (Nat × zV)} {st : List zV} {h : zH} {r : Option zV × zH} {x y : Int} {off : Int} {tgt : Nat} (hc : y ≤ x) (hd : decode M.2.1 pc = .ok (.if_icmp .ge off, 3)) (ht : (pc : Int) + off = (tgt : Int)) (k : zK M tgt L st h r) : zK M pc L ((0, y) :: (0, x) :: st) h r :=
  ⟨k.1, fun E p l e R s m args below meth c H locs cells slots n0 s0 Q ls g f => lv_icmp_ge (x := Int32.ofInt x) (y := Int32.ofInt y) g.hx g.hb hd ht (fun _ => zgo k g f g.cnS.tail.tail rfl) (fun hn => absurd ((zI_le g.cnS.head g.cnS.tail.head).mpr hc) hn)⟩
theorem k_ic_ge_f {M : zM} {pc : Nat} {L : List (Nat × zV)} {st : List zV} {h : zH} {r : Option zV × zH} {x y : Int} {off : Int} {tgt : Nat} (hc : ¬ (y ≤ x)) (hd : decode M.2.1 pc = .ok (.if_icmp .ge off, 3)) (ht : (pc : Int) + off = (tgt : Int)) (k : zK M (pc + 3) L st h r) : zK M pc L ((0, y) :: (0, x) :: st) h r :=
  ⟨k.1, fun E p l e R s m args below meth c H locs cells slots n0 s0 Q ls g f => lv_icmp_ge (x := Int32.ofInt x) (y := Int32.ofInt y) (tgt := tgt) g.hx g.hb hd ht (fun hp => absurd ((zI_le g.cnS.head g.cnS.tail.head).mp hp) hc) (fun _ => zgo k g f g.cnS.tail.tail rfl)⟩
theorem k_if_gt_t {M : zM} {pc : Nat} {L : List (Nat × zV)} {st : List zV} {h : zH} {r : Option zV × zH} {x : Int} {off : Int} {tgt : Nat} (hc : 0 < x) (hd : decode M.2.1 pc = .ok (.ifCond .gt off, 3)) (ht : (pc : Int) + off = (tgt : Int)) (k : zK M tgt L st h r) : zK M pc L ((0, x) :: st) h r :=
  ⟨k.1, fun E p l e R s m args below meth c H locs cells slots n0 s0 Q ls g f => lv_if_gt (x := Int32.ofInt x) g.hx g.hb hd ht (fun _ => zgo k g f g.cnS.tail rfl) (fun hn => absurd ((zbg0 g.cnS.head).mpr hc) hn)⟩
theorem k_if_gt_f {M : zM} {pc : Nat} {L : List (Nat × zV)} {st : List zV} {h : zH} {r : Option zV × zH} {x : Int} {off : Int} {tgt : Nat} (hc : ¬ (0 < x)) (hd : decode M.2.1 pc = .ok (.ifCond .gt off, 3)) (ht : (pc : Int) + off = (tgt : Int)) (k : zK M (pc + 3) L st h r) : zK M pc L ((0, x) :: st) h r :=
  ⟨k.1, fun E p l e R s m args below meth c H locs cells slots n0 s0 Q ls g f => lv_if_gt (x := Int32.ofInt x) (tgt := tgt) g.hx g.hb hd ht (fun hp => absurd ((zbg0 g.cnS.head).mp hp) hc) (fun _ => zgo k g f g.cnS.tail rfl)⟩
theorem k_ic_gt_t {M : zM} {pc : Nat} {L : List (Nat × zV)} {st : List zV} {h : zH} {r : Option zV × zH} {x y : Int} {off : Int} {tgt : Nat} (hc : y < x) (hd : decode M.2.1 pc = .ok (.if_icmp .gt off, 3)) (ht : (pc : Int) + off = (tgt : Int)) (k : zK M tgt L st h r) : zK M pc L ((0, y) :: (0, x) :: st) h r :=
  ⟨k.1, fun E p l e R s m args below meth c H locs cells slots n0 s0 Q ls g f => lv_icmp_gt (x := Int32.ofInt x) (y := Int32.ofInt y) g.hx g.hb hd ht (fun _ => zgo k g f g.cnS.tail.tail rfl) (fun hn => absurd ((zI_lt g.cnS.head g.cnS.tail.head).mpr hc) hn)⟩
theorem k_ic_gt_f {M : zM} {pc : Nat} {L : List (Nat × zV)} {st : List zV} {h : zH} {r : Option zV × zH} {x y : Int} {off : Int} {tgt : Nat} (hc : ¬ (y < x)) (hd : decode M.2.1 pc = .ok (.if_icmp .gt off, 3)) (ht : (pc : Int) + off = (tgt : Int)) (k : zK M (pc + 3) L st h r) : zK M pc L ((0, y) :: (0, x) :: st) h r :=
  ⟨k.1, fun E p l e R s m args below meth c H locs cells slots n0 s0 Q ls g f => lv_icmp_gt (x := Int32.ofInt x) (y := Int32.ofInt y) (tgt := tgt) g.hx g.hb hd ht (fun hp => absurd ((zI_lt g.cnS.head g.cnS.tail.head).mp hp) hc) (fun _ => zgo k g f g.cnS.tail.tail rfl)⟩
theorem k_if_le_t {M : zM} {pc : Nat} {L : List (Nat × zV)} {st : List zV} {h : zH} {r : Option zV × zH} {x : Int} {off : Int} {tgt : Nat} (hc : x ≤ 0) (hd : decode M.2.1 pc = .ok (.ifCond .le off, 3)) (ht : (pc : Int) + off = (tgt : Int)) (k : zK M tgt L st h r) : zK M pc L ((0, x) :: st) h r :=
  ⟨k.1, fun E p l e R s m args below meth c H locs cells slots n0 s0 Q ls g f => lv_if_le (x := Int32.ofInt x) g.hx g.hb hd ht (fun _ => zgo k g f g.cnS.tail rfl) (fun hn => absurd ((zbL0 g.cnS.head).mpr hc) hn)⟩
theorem k_if_le_f {M : zM} {pc : Nat} {L : List (Nat × zV)} {st : List zV} {h : zH} {r : Option zV × zH} {x : Int} {off : Int} {tgt : Nat} (hc : ¬ (x ≤ 0)) (hd : decode M.2.1 pc = .ok (.ifCond .le off, 3)) (ht : (pc : Int) + off = (tgt : Int)) (k : zK M (pc + 3) L st h r) : zK M pc L ((0, x) :: st) h r :=
  ⟨k.1, fun E p l e R s m args below meth c H locs cells slots n0 s0 Q ls g f => lv_if_le (x := Int32.ofInt x) (tgt := tgt) g.hx g.hb hd ht (fun hp => absurd ((zbL0 g.cnS.head).mp hp) hc) (fun _ => zgo k g f g.cnS.tail rfl)⟩
theorem k_ic_le_t {M : zM} {pc : Nat} {L : List (Nat × zV)} {st : List zV} {h : zH} {r : Option zV × zH} {x y : Int} {off : Int} {tgt : Nat} (hc : x ≤ y) (hd : decode M.2.1 pc = .ok (.if_icmp .le off, 3)) (ht : (pc : Int) + off = (tgt : Int)) (k : zK M tgt L st h r) : zK M pc L ((0, y) :: (0, x) :: st) h r :=
  ⟨k.1, fun E p l e R s m args below meth c H locs cells slots n0 s0 Q ls g f => lv_icmp_le (x := Int32.ofInt x) (y := Int32.ofInt y) g.hx g.hb hd ht (fun _ => zgo k g f g.cnS.tail.tail rfl) (fun hn => absurd ((zI_le g.cnS.tail.head g.cnS.head).mpr hc) hn)⟩
theorem k_ic_le_f {M : zM} {pc : Nat} {L : List (Nat × zV)} {st : List zV} {h : zH} {r : Option zV × zH} {x y : Int} {off : Int} {tgt : Nat} (hc : ¬ (x ≤ y)) (hd : decode M.2.1 pc = .ok (.if_icmp .le off, 3)) (ht : (pc : Int) + off = (tgt : Int)) (k : zK M (pc + 3) L st h r) : zK M pc L ((0, y) :: (0, x) :: st) h r :=
  ⟨k.1, fun E p l e R s m args below meth c H locs cells slots n0 s0 Q ls g f => lv_icmp_le (x := Int32.ofInt x) (y := Int32.ofInt y) (tgt := tgt) g.hx g.hb hd ht (fun hp => absurd ((zI_le g.cnS.tail.head g.cnS.head).mp hp) hc) (fun _ => zgo k g f g.cnS.tail.tail rfl)⟩
theorem k_goto {M : zM} {pc : Nat} {L : List (Nat × zV)} {st : List zV} {h : zH} {r : Option zV × zH} {off : Int} {tgt : Nat} (hd : decode M.2.1 pc = .ok (.goto off, 3)) (ht : (pc : Int) + off = (tgt : Int)) (k : zK M tgt L st h r) : zK M pc L st h r :=
  ⟨k.1, fun E p l e R s m args below meth c H locs cells slots n0 s0 Q ls g f => lv_goto g.hx g.hb hd ht (zgo k g f g.cnS rfl)⟩
end
section
/-! Rows: fields and arrays. -/
/-- a class of the world, by its number -/
def zCk (k : Nat) (C : String) (T : u_T) (N : Nat) : Prop := k < 20 ∧ classes[k]? = some (C, T, N) ∧ (∀ w ∈ u_ws C T N, w ∈ zGW) ∧ (∃ ty0 : Nat → FieldType, ∀ j, j < N → parseFieldDescriptor (T j).2.2.1 = some (ty0 j)) ∧ (∀ a, a < N → ∀ b, b < N → a ≠ b → (T a).2.1 ≠ (T b).2.1)
/-- a field that an instruction of the class own names by i -/
def zFd (own : String) (i k j : Nat) (ty : FieldType) (fin : Bool) : Prop := ∃ C T N, zCk k C T N ∧ j < N ∧ parseFieldDescriptor (T j).2.2.1 = some ty ∧ (T j).2.2.2 = fin ∧ (T j).1 = C ∧
  (Cond.fieldLink own i (T j).1 (T j).2.1 (T j).2.2.1 ∈ zGW ∨ ∃ host, Cond.fieldLinkNest own i (T j).1 (T j).2.1 (T j).2.2.1 host ∈ zNW)
def zfs (E : zE) (h : zH) (c k N : Nat) : List Value := (List.range N).map fun j => zfv E k j (h.2.1 c j) (h.2.2 c j)
theorem zfs_at (E : zE) (h : zH) (c k N : Nat) {j : Nat} (hj : j < N) : (zfs E h c k N)[j]? = some (zfv E k j (h.2.1 c j) (h.2.2 c j)) := by
  unfold zfs
  rw [List.getElem?_map, List.getElem?_range hj]
  rfl
theorem zRp.ob {E : zE} {h : zH} {H : Heap} (hR : zRp E h H) {c k n : Nat} (hc : h.1[c]? = some (k, n)) {C : String} {T : u_T} {N : Nat} (hk : k < 20) (hcl : classes[k]? = some (C, T, N)) : va_P E.1 classes [(E.2.2.1 + c, .inr (k, zfs E h c k N))] H := by
  intro q x hx
  have hz : q < 1 := (List.getElem?_eq_some_iff.mp hx).1
  rw [show q = 0 by omega] at hx
  cases hx
  have h1 := hR.2.2.1 c k n (hR.c0 hc (by omega)) hc
  unfold zat at h1
  rw [if_pos hk] at h1
  obtain ⟨r, g1, -, g2⟩ := h1
  have hr : r = (C, T, N) := Option.some.inj (g1.symm.trans hcl)
  subst hr
  refine ⟨_, hcl, g2.to fun j hj => ?_⟩
  show _ = (zfs E h c k N).getD j .null
  rw [List.getD_eq_getElem?_getD, zfs_at E h c k N hj]
  rfl
theorem zRp.arr {E : zE} {h : zH} {H : Heap} (hR : zRp E h H) {c k n : Nat} (hc : h.1[c]? = some (k, n)) (hk : ¬ k < 20) (hk9 : k ≠ 99) : H[E.2.2.1 + c]? = some (arrV (E.2.1 (k - 20)) n (fun j => zav E k (h.2.1 c j) (h.2.2 c j))) := by
  have h1 := hR.2.2.1 c k n (hR.c0 hc hk9) hc
  unfold zat at h1
  rw [if_neg hk] at h1
  exact h1
theorem zat.same {E : zE} {h h' : zH} {c k n : Nat} {H H' : Heap} (hz : zat E h c k n H) (h1 : ∀ j, h'.2.1 c j = h.2.1 c j) (h2 : ∀ j, h'.2.2 c j = h.2.2 c j) (h3 : H'[E.2.2.1 + c]? = H[E.2.2.1 + c]?) : zat E h' c k n H' := by
  unfold zat at hz ⊢
  split
  · rename_i hk
    rw [if_pos hk] at hz
    obtain ⟨r, g1, g2, g3⟩ := hz
    exact ⟨r, g1, g2, (g3.kept h3).to fun j _ => by rw [h1, h2]⟩
  · rename_i hk
    rw [if_neg hk] at hz
    rw [h3, hz]
    simp only [h1, h2]
theorem zRp.put {E : zE} {h : zH} {H H' : Heap} (hR : zRp E h H) {c k n : Nat} (hc : h.1[c]? = some (k, n)) (hk9 : k ≠ 99) {ρ : Nat → Nat → Nat} {μ : Nat → Nat → Int} (h1 : ∀ a b, a ≠ c → ρ a b = h.2.1 a b) (h2 : ∀ a b, a ≠ c → μ a b = h.2.2 a b)
    (hat : zat E (h.1, ρ, μ) c k n H') (hok : ∀ j, zok (ztp k j) (μ c j)) (z : H'.size = H.size) (oq : ∀ q : Nat, q ≠ E.2.2.1 + c → H'[q]? = H[q]?) : zRp E (h.1, ρ, μ) H' := by
  have hc0 := hR.c0 hc hk9
  obtain ⟨r1, r2, r3, r4, r5⟩ := hR
  have r6 := r5.2.1
  refine ⟨by rw [z, r1], r2, fun c' k' n' g0 g1 => ?_, fun c' k' n' j g1 => ?_, ?_⟩
  · by_cases he : c' = c
    · subst he
      cases hc.symm.trans g1
      exact hat
    · exact (r3 c' k' n' g0 g1).same (fun j => h1 c' j he) (fun j => h2 c' j he) (oq _ (by omega))
  · by_cases he : c' = c
    · subst he
      cases hc.symm.trans g1
      exact hok j
    · show zok (ztp k' j) (μ c' j)
      rw [h2 c' j he]
      exact r4 c' k' n' j g1
  · exact ⟨by rw [oq _ (by omega)]; exact r5.1, r6, fun j hj => by rw [r5.2.2 j hj]; exact congrArg Int32.ofInt (h2 0 j (by omega)).symm⟩
theorem zSf.put {E : zE} {H0 H H' : Heap} {locs : List Loc} (hS : zSf E H0 H locs) {c i : Nat} (hc : c ≠ 0) (z : H'.size = H.size) (oq : ∀ q : Nat, q ≠ E.2.2.1 + c → H'[q]? = H[q]?) : zSf E H0 H' (locs ++ [⟨E.2.2.1 + c, i⟩]) := by
  obtain ⟨s1, s2, s3⟩ := hS
  refine ⟨fun q hq => by rw [oq q (by omega)]; exact s1 q hq, fun x hx => ?_, by rw [z]; exact s3⟩
  rcases List.mem_append.mp hx with hx | hx
  · exact s2 x hx
  · rw [List.mem_singleton.mp hx]
    show E.2.2.1 < E.2.2.1 + c
    omega
theorem z_gI_of {h : zH} {k c j : Nat} {x : Int} (e : z_gI h k c j = some x) : ∃ n, h.1[c]? = some (k, n) ∧ x = h.2.2 c j := by
  unfold z_gI at e
  split at e
  · rename_i q hq
    split at e
    · rename_i hk
      obtain ⟨a, b⟩ := q
      cases hk
      exact ⟨b, hq, (Option.some.inj e).symm⟩
    · cases e
  · cases e
theorem z_gR_of {h : zH} {k c j : Nat} {x : Nat} (e : z_gR h k c j = some x) : ∃ n, h.1[c]? = some (k, n) ∧ x ≠ 0 ∧ x = h.2.1 c j := by
  unfold z_gR at e
  split at e
  · rename_i q hq
    split at e
    · rename_i hk
      obtain ⟨a, b⟩ := q
      obtain ⟨rfl, hk⟩ := hk
      cases e
      exact ⟨b, hq, hk, rfl⟩
    · cases e
  · cases e
theorem z_pI_of {h h' : zH} {k c j : Nat} {x : Int} (e : z_pI h k c j x = some h') : ∃ n, h.1[c]? = some (k, n) ∧ h' = (h.1, h.2.1, z_up h.2.2 c j x) := by
  unfold z_pI at e
  split at e
  · rename_i q hq
    split at e
    · rename_i hk
      obtain ⟨a, b⟩ := q
      cases hk
      exact ⟨b, hq, (Option.some.inj e).symm⟩
    · cases e
  · cases e
theorem z_pR_of {h h' : zH} {k c j : Nat} {x : Nat} (e : z_pR h k c j x = some h') : ∃ n, h.1[c]? = some (k, n) ∧ h' = (h.1, z_up h.2.1 c j x, h.2.2) := by
  unfold z_pR at e
  split at e
  · rename_i q hq
    split at e
    · rename_i hk
      obtain ⟨a, b⟩ := q
      cases hk
      exact ⟨b, hq, (Option.some.inj e).symm⟩
    · cases e
  · cases e
theorem z_aI_of {h : zH} {k c : Nat} {i : Int} {x : Int} (e : z_aI h k c i = some x) : ∃ n, h.1[c]? = some (k, n) ∧ (0 ≤ i ∧ i < (n : Int)) ∧ x = h.2.2 c i.toNat := by
  unfold z_aI at e
  split at e
  · rename_i q hq
    split at e
    · rename_i hk
      obtain ⟨a, b⟩ := q
      obtain ⟨rfl, hk2⟩ := hk
      exact ⟨b, hq, hk2, (Option.some.inj e).symm⟩
    · cases e
  · cases e
theorem z_aR_of {h : zH} {k c : Nat} {i : Int} {x : Nat} (e : z_aR h k c i = some x) : ∃ n, h.1[c]? = some (k, n) ∧ (0 ≤ i ∧ i < (n : Int)) ∧ x ≠ 0 ∧ x = h.2.1 c i.toNat := by
  unfold z_aR at e
  split at e
  · rename_i q hq
    split at e
    · rename_i hk
      obtain ⟨a, b⟩ := q
      obtain ⟨rfl, hk2, hk3, hk4⟩ := hk
      cases e
      exact ⟨b, hq, ⟨hk2, hk3⟩, hk4, rfl⟩
    · cases e
  · cases e
theorem z_sI_of {h h' : zH} {k c : Nat} {i : Int} {x : Int} (e : z_sI h k c i x = some h') : ∃ n, h.1[c]? = some (k, n) ∧ (0 ≤ i ∧ i < (n : Int)) ∧ h' = (h.1, h.2.1, z_up h.2.2 c i.toNat x) := by
  unfold z_sI at e
  split at e
  · rename_i q hq
    split at e
    · rename_i hk
      obtain ⟨a, b⟩ := q
      obtain ⟨rfl, hk2⟩ := hk
      exact ⟨b, hq, hk2, (Option.some.inj e).symm⟩
    · cases e
  · cases e
theorem z_sR_of {h h' : zH} {k k2 c : Nat} {i : Int} {x : Nat} (e : z_sR h k k2 c i x = some h') : ∃ n n2, h.1[c]? = some (k, n) ∧ h.1[x]? = some (k2, n2) ∧ (0 ≤ i ∧ i < (n : Int)) ∧ h' = (h.1, z_up h.2.1 c i.toNat x, h.2.2) := by
  unfold z_sR at e
  split at e
  · rename_i q u hq hu
    split at e
    · rename_i hk
      obtain ⟨a, b⟩ := q
      obtain ⟨a2, b2⟩ := u
      obtain ⟨rfl, hk2, hk3, rfl⟩ := hk
      exact ⟨b, b2, hq, hu, ⟨hk2, hk3⟩, (Option.some.inj e).symm⟩
    · cases e
  · cases e
theorem z_len_of {h : zH} {k c : Nat} {x : Int} (e : z_len h k c = some x) : ∃ n : Nat, h.1[c]? = some (k, n) ∧ x = n := by
  unfold z_len at e
  split at e
  · rename_i q hq
    split at e
    · rename_i hk
      obtain ⟨a, b⟩ := q
      cases hk
      exact ⟨b, hq, (Option.some.inj e).symm⟩
    · cases e
  · cases e
theorem z_up_eq {α : Type} {f : Nat → Nat → α} {c j : Nat} {x : α} : z_up f c j x c j = x := if_pos ⟨rfl, rfl⟩
theorem z_up_ne {α : Type} {f : Nat → Nat → α} {c j a b : Nat} {x : α} (h : a ≠ c) : z_up f c j x a b = f a b := if_neg fun g => h g.1
theorem z_up_nj {α : Type} {f : Nat → Nat → α} {c j a b : Nat} {x : α} (h : b ≠ j) : z_up f c j x a b = f a b := if_neg fun g => h g.2
/-- an index of a row -/
theorem zin {i : Int} {n : Nat} (hi : zi32 i) (h : 0 ≤ i ∧ i < (n : Int)) : ¬ (Int32.ofInt i < 0 ∨ n ≤ (Int32.ofInt i).toNatClampNeg) := by
  rw [zbl0 hi, zI_cl hi]
  omega
theorem zhas {own : String} {i k j : Nat} {ty : FieldType} {fin : Bool} (hf : zFd own i k j ty fin) : k < 20 := by
  obtain ⟨_, _, _, h, -⟩ := hf
  exact h.1
end
section
theorem zgetf {M : zM} {E : zE} {p : Program} {l : Launch} {e : Env} {R : Room} {s : State} {m : MethodId} {args : Array Value} {below : List Frame} {meth : Method} {c0 : Code} {L : List (Nat × zV)} {st : List zV} {h : zH} {H : Heap} {locs : List Loc} {cells slots n0 s0 : Nat} {Q : State → Prop} {ls : Array Slot} {r : Option zV × zH} {pc i k j c n : Nat} {ty : FieldType} {fin : Bool} {rest : List Value}
    (g : zG M E p R s m args meth c0 L st h H locs cells slots n0 s0 ls r) (hf : zFd M.1.cls i k j ty fin) (hc : h.1[c]? = some (k, n)) (hd : decode M.2.1 pc = .ok (.getfield i, 3))
    (kk : W p l e R s m args below meth c0 H locs cells slots Q (F0 m (pc + 3) ls (zfv E k j (h.2.1 c j) (h.2.2 c j) :: rest))) : W p l e R s m args below meth c0 H locs cells slots Q (F0 m pc ls (.ref (E.2.2.1 + c) :: rest)) := by
  obtain ⟨C, T, N, ⟨hk, hcl, hin, -, -⟩, hj, -, -, -, hlink⟩ := hf
  have hP := g.rp.ob hc hk hcl
  rcases hlink with hlink | ⟨host, hlink⟩
  · exact va_get g.hx g.hb g.hts hin g.own g.hK hP 0 rfl hcl j hj (g.hts _ hlink) (fun _ h => h) (zfs_at E h c k N hj) hd kk
  · exact va_getN g.hx g.hb g.hts hin g.own g.hK hP 0 rfl hcl j hj (va_Nw.use rfl (g.hst.2.1 _ hlink)) (fun _ h => h) (zfs_at E h c k N hj) hd kk
theorem zputf {M : zM} {E : zE} {p : Program} {l : Launch} {e : Env} {R : Room} {s : State} {m : MethodId} {args : Array Value} {below : List Frame} {meth : Method} {c0 : Code} {L : List (Nat × zV)} {st : List zV} {h : zH} {H : Heap} {locs : List Loc} {cells slots n0 s0 : Nat} {Q : State → Prop} {ls : Array Slot} {r : Option zV × zH} {pc i k j c n : Nat} {ty : FieldType} {fin : Bool} {rest : List Value} {v : Value} {ρ : Nat → Nat → Nat} {μ : Nat → Nat → Int}
    (g : zG M E p R s m args meth c0 L st h H locs cells slots n0 s0 ls r) (hf : zFd M.1.cls i k j ty fin) (hfin : fin = true → M.1.name = "<init>" ∧ ∃ T N, classes[k]? = some (M.1.cls, T, N)) (hc : h.1[c]? = some (k, n)) (hd : decode M.2.1 pc = .ok (.putfield i, 3))
    (h1 : ∀ a b, (a ≠ c ∨ b ≠ j) → ρ a b = h.2.1 a b) (h2 : ∀ a b, (a ≠ c ∨ b ≠ j) → μ a b = h.2.2 a b) (hv : zfv E k j (ρ c j) (μ c j) = v) (hn : narrow ty v = v) (hfit : fits ty v = true) (hok : zok (ztp k j) (μ c j))
    (kk : ∀ (H' : Heap) (locs' : List Loc), zRp E (h.1, ρ, μ) H' → zSf E s.heap H' locs' → W p l e R s m args below meth c0 H' locs' cells slots Q (F0 m (pc + 3) ls rest)) : W p l e R s m args below meth c0 H locs cells slots Q (F0 m pc ls (v :: .ref (E.2.2.1 + c) :: rest)) := by
  obtain ⟨C, T, N, ⟨hk, hcl, hin, ⟨ty0, hty⟩, hnm⟩, hj, hd0, hfn, hdecl, hlink⟩ := hf
  have hc0 := g.rp.c0 hc (by omega)
  have hap := va_apart (own := M.1.cls) g.hts hin ty0 hty hnm g.hK hcl
  have hz := g.rp.2.2.1 c k n hc0 hc
  unfold zat at hz
  rw [if_pos hk] at hz
  obtain ⟨r0, a1, a2, cell, q1, q2, q3, q4⟩ := hz
  have hr : r0 = (C, T, N) := Option.some.inj (a1.symm.trans hcl)
  subst hr
  obtain ⟨hS, hfc, kC, hkC, hkind⟩ := g.hK.1 k _ hcl
  obtain ⟨cf, kf, fi, f, hi, hsl⟩ := hS j hj
  have hst := (u_facts hfc hkC (u_lays g.hts hin hj) hi).1
  have hslt : f.slot < cell.slots.size := by rw [hsl]; exact k2_hasslot (q4 j hj)
  have fin2 : ∀ (H' : Heap), H'[E.2.2.1 + c]? = some (cell.setSlot f.slot v) → H'.size = H.size → (∀ q : Nat, q ≠ E.2.2.1 + c → H'[q]? = H[q]?) → W p l e R s m args below meth c0 H' (locs ++ [⟨E.2.2.1 + c, f.slot⟩]) cells slots Q (F0 m (pc + 3) ls rest) := by
    intro H' e1 z1 oq
    rw [hsl] at e1
    refine kk H' _ (g.rp.put hc (by omega) (fun a b ha => h1 a b (Or.inl ha)) (fun a b ha => h2 a b (Or.inl ha)) ?_ (fun b => ?_) z1 oq) (g.sf.put hc0 z1 oq)
    · unfold zat
      rw [if_pos hk]
      refine ⟨_, hcl, a2, _, e1, q2, q3, fun b hb => ?_⟩
      rw [t_set q4 hap hj v b hb]
      unfold updV
      by_cases hbj : b = j
      · subst hbj
        rw [if_pos rfl]
        exact congrArg some hv.symm
      · rw [if_neg hbj]
        show some (zfv E k b (h.2.1 c b) (h.2.2 c b)) = some (zfv E k b (ρ c b) (μ c b))
        rw [h1 c b (Or.inr hbj), h2 c b (Or.inr hbj)]
    · by_cases hbj : b = j
      · subst hbj
        exact hok
      · rw [h2 c b (Or.inr hbj)]
        exact g.rp.2.2.2.1 c k n b hc
  have hlay := g.hts _ (hin _ (u_in_lay hj))
  unfold u_lay at hlay
  cases fin with
  | false =>
    rw [if_neg (by rw [hfn]; decide)] at hlay
    have h6 := u_store hfc hkC hkind hlay hi hd0 hn hfit
    rcases hlink with hlink | ⟨host, hlink⟩
    · exact W.putK g.hx g.hb (f := f) ⟨g.own, g.hts _ hlink, ⟨_, _, _, hi⟩, hst⟩ (by rw [q2]; exact h6) q1 q3 hslt rfl rfl hd fin2
    · exact va_WputK g.hx g.hb (f := f) g.own (va_Nw.use rfl (g.hst.2.1 _ hlink)) hi hst (by rw [q2]; exact h6) q1 q3 hslt rfl rfl hd fin2
  | true =>
    rw [if_pos hfn] at hlay
    obtain ⟨hin2, T', N', hcl'⟩ := hfin rfl
    have hCe : C = M.1.cls := by
      have := Option.some.inj (hcl.symm.trans hcl')
      exact congrArg Prod.fst this
    have hcf : m.cls = cf := by
      obtain ⟨_, _, c', _, _, _, -, -, hf', -, -, -, hown2, -⟩ := Cond.laysFinal_spec hlay
      have e1 : c' = cf := by have := hi.symm.trans hf'; simp at this; exact this.1.symm
      rw [hdecl, hCe] at hown2
      rw [← e1]; exact Option.some.inj (g.own.symm.trans hown2)
    have h6 := u_fits hfc hkC hkind (Or.inr hlay) hi hd0 hn hfit
    rcases hlink with hlink | ⟨host, hlink⟩
    · exact W.putFinK g.hx g.hb g.own (g.hts _ hlink) hi hst hcf (g.nm.trans hin2) (by rw [q2]; exact h6) q1 q3 hslt rfl rfl hd fin2
    · exact va_Wputf g.hx g.hb g.own (va_Nw.use rfl (g.hst.2.1 _ hlink)) hi hst (Or.inr ⟨hcf, g.nm.trans hin2⟩) q1 (by rw [q3]; exact fun h => by cases h) hslt h6.1 (by rw [q3, q2]; exact h6.2) rfl rfl hd (by
        have hl : E.2.2.1 + c < H.size := g.rp.sz hc
        exact fin2 _ (by simp [Array.getElem?_setIfInBounds, hl]) (by simp) (fun q hq => by simp [Array.getElem?_setIfInBounds, Ne.symm hq]))
theorem znar {E : zE} {ty : FieldType} (hty : (∃ n, ty = .object n) ∨ ∃ t, ty = .array t) (x : Nat) : narrow ty (zcv E (2, (x : Int))) = zcv E (2, (x : Int)) := by
  rw [zvR]
  unfold zrf
  rcases hty with ⟨n, rfl⟩ | ⟨t, rfl⟩ <;> split <;> rfl
theorem zfit {E : zE} {ty : FieldType} (hty : (∃ n, ty = .object n) ∨ ∃ t, ty = .array t) (x : Nat) : fits ty (zcv E (2, (x : Int))) = true := by
  rw [zvR]
  unfold zrf
  rcases hty with ⟨n, rfl⟩ | ⟨t, rfl⟩ <;> split <;> rfl
theorem znar_c (x : Int) : narrow .char (.int (Int32.ofInt x)) = Value.int (Int32.ofInt (x % 65536)) := by
  show Value.int ((Int32.ofInt x).toUInt32.toUInt16.toUInt32.toInt32) = _
  congr 1
  rw [← zi2c]
  apply Int32.toBitVec_inj.mp
  apply BitVec.eq_of_toNat_eq
  simp
theorem znar_z (x : Int) : narrow .boolean (.int (Int32.ofInt x)) = Value.int (Int32.ofInt (x % 2)) := by
  show Value.int (Int32.ofInt x &&& 1) = _
  congr 1
  apply Int32.toBitVec_inj.mp
  apply BitVec.eq_of_toNat_eq
  simp
  omega
theorem k_getI {M : zM} {pc : Nat} {L : List (Nat × zV)} {st : List zV} {h : zH} {r : Option zV × zH} {i k j c' : Nat} {ty : FieldType} {fin : Bool} {x : Int} (hd : decode M.2.1 pc = .ok (.getfield i, 3)) (hf : zFd M.1.cls i k j ty fin) (ht : zty k j = 0) (e : z_gI h k c' j = some x) (k0 : zK M (pc + 3) L ((0, x) :: st) h r) : zK M pc L ((2, (c' : Int)) :: st) h r := by
  obtain ⟨n, hc, rfl⟩ := z_gI_of e
  have hk := zhas hf
  refine ⟨k0.1, fun E p l e R s m args below meth c H locs cells slots n0 s0 Q ls g f => ?_⟩
  have hc0 := g.rp.c0 hc (by omega)
  rw [List.map_cons, zvR, zrf_ne hc0]
  refine zgetf g hf hc hd (zgo k0 g f (g.cnS.tail.cons (by have := g.rp.2.2.2.1 _ _ _ j hc; unfold ztp at this; rw [if_pos hk, ht] at this; exact this)) ?_)
  rw [List.map_cons]
  congr 1
  unfold zfv
  rw [ht]
  rfl
theorem k_getL {M : zM} {pc : Nat} {L : List (Nat × zV)} {st : List zV} {h : zH} {r : Option zV × zH} {i k j c' : Nat} {ty : FieldType} {fin : Bool} {x : Int} (hd : decode M.2.1 pc = .ok (.getfield i, 3)) (hf : zFd M.1.cls i k j ty fin) (ht : zty k j = 1) (e : z_gI h k c' j = some x) (k0 : zK M (pc + 3) L ((1, x) :: st) h r) : zK M pc L ((2, (c' : Int)) :: st) h r := by
  obtain ⟨n, hc, rfl⟩ := z_gI_of e
  have hk := zhas hf
  refine ⟨k0.1, fun E p l e R s m args below meth c H locs cells slots n0 s0 Q ls g f => ?_⟩
  have hc0 := g.rp.c0 hc (by omega)
  rw [List.map_cons, zvR, zrf_ne hc0]
  refine zgetf g hf hc hd (zgo k0 g f (g.cnS.tail.cons (by have := g.rp.2.2.2.1 _ _ _ j hc; unfold ztp at this; rw [if_pos hk, ht] at this; exact this)) ?_)
  rw [List.map_cons]
  congr 1
  unfold zfv
  rw [ht]
  rfl
theorem k_getR {M : zM} {pc : Nat} {L : List (Nat × zV)} {st : List zV} {h : zH} {r : Option zV × zH} {i k j c' : Nat} {ty : FieldType} {fin : Bool} {x : Nat} (hd : decode M.2.1 pc = .ok (.getfield i, 3)) (hf : zFd M.1.cls i k j ty fin) (ht : zty k j = 2) (e : z_gR h k c' j = some x) (k0 : zK M (pc + 3) L ((2, (x : Int)) :: st) h r) : zK M pc L ((2, (c' : Int)) :: st) h r := by
  obtain ⟨n, hc, hx0, rfl⟩ := z_gR_of e
  have hk := zhas hf
  refine ⟨k0.1, fun E p l e R s m args below meth c H locs cells slots n0 s0 Q ls g f => ?_⟩
  have hc0 := g.rp.c0 hc (by omega)
  rw [List.map_cons, zvR, zrf_ne hc0]
  refine zgetf g hf hc hd (zgo k0 g f (g.cnS.tail.cons (zcn_of hx0)) ?_)
  rw [List.map_cons]
  congr 1
  unfold zfv
  rw [ht]
  rfl
theorem k_putI {M : zM} {pc : Nat} {L : List (Nat × zV)} {st : List zV} {h : zH} {r : Option zV × zH} {i k j c' : Nat} {fin : Bool} {x : Int} {h' : zH}  (hd : decode M.2.1 pc = .ok (.putfield i, 3)) (hf : zFd M.1.cls i k j .int fin) (hfin : fin = true → M.1.name = "<init>" ∧ ∃ T N, classes[k]? = some (M.1.cls, T, N)) (ht : zty k j = 0) (e : z_pI h k c' j x = some h') (k0 : zK M (pc + 3) L st h' r) : zK M pc L ((0, x) :: (2, (c' : Int)) :: st) h r := by
  obtain ⟨n, hc, rfl⟩ := z_pI_of e
  have hk := zhas hf
  refine ⟨k0.1, fun E p l e R s m args below meth c H locs cells slots n0 s0 Q ls g f => ?_⟩
  have hc0 := g.rp.c0 hc (by omega)
  rw [List.map_cons, List.map_cons, zvR, zrf_ne hc0]
  have hcx : zcn (0, x) := g.cnS.head
  refine zputf (ρ := h.2.1) (μ := z_up h.2.2 c' j x) g hf hfin hc hd ?_ ?_ ?_ rfl rfl ?_ (fun H' locs' hr hs => k0.2 E p l e R s m args below meth c H' locs' cells slots n0 s0 Q ls (g.hp g.cnS.tail.tail hr hs g.2.2.2.2.2.2.2.1 g.2.2.2.2.2.2.2.2.1) f)
  · intro a b hab
    rfl
  · intro a b hab
    exact if_neg (fun q => hab.elim (fun z => z q.1) (fun z => z q.2))
  · unfold zfv
    rw [ht]
    rw [z_up_eq]; rfl
  · unfold ztp; rw [if_pos hk, ht, z_up_eq]; exact hcx
theorem k_putL {M : zM} {pc : Nat} {L : List (Nat × zV)} {st : List zV} {h : zH} {r : Option zV × zH} {i k j c' : Nat} {fin : Bool} {x : Int} {h' : zH}  (hd : decode M.2.1 pc = .ok (.putfield i, 3)) (hf : zFd M.1.cls i k j .long fin) (hfin : fin = true → M.1.name = "<init>" ∧ ∃ T N, classes[k]? = some (M.1.cls, T, N)) (ht : zty k j = 1) (e : z_pI h k c' j x = some h') (k0 : zK M (pc + 3) L st h' r) : zK M pc L ((1, x) :: (2, (c' : Int)) :: st) h r := by
  obtain ⟨n, hc, rfl⟩ := z_pI_of e
  have hk := zhas hf
  refine ⟨k0.1, fun E p l e R s m args below meth c H locs cells slots n0 s0 Q ls g f => ?_⟩
  have hc0 := g.rp.c0 hc (by omega)
  rw [List.map_cons, List.map_cons, zvR, zrf_ne hc0]
  have hcx : zcn (1, x) := g.cnS.head
  refine zputf (ρ := h.2.1) (μ := z_up h.2.2 c' j x) g hf hfin hc hd ?_ ?_ ?_ rfl rfl ?_ (fun H' locs' hr hs => k0.2 E p l e R s m args below meth c H' locs' cells slots n0 s0 Q ls (g.hp g.cnS.tail.tail hr hs g.2.2.2.2.2.2.2.1 g.2.2.2.2.2.2.2.2.1) f)
  · intro a b hab
    rfl
  · intro a b hab
    exact if_neg (fun q => hab.elim (fun z => z q.1) (fun z => z q.2))
  · unfold zfv
    rw [ht]
    rw [z_up_eq]; rfl
  · unfold ztp; rw [if_pos hk, ht, z_up_eq]; exact hcx
theorem k_putZ {M : zM} {pc : Nat} {L : List (Nat × zV)} {st : List zV} {h : zH} {r : Option zV × zH} {i k j c' : Nat} {fin : Bool} {x : Int} {h' : zH}  (hd : decode M.2.1 pc = .ok (.putfield i, 3)) (hf : zFd M.1.cls i k j .boolean fin) (hfin : fin = true → M.1.name = "<init>" ∧ ∃ T N, classes[k]? = some (M.1.cls, T, N)) (ht : zty k j = 0) (e : z_pZ h k c' j x = some h') (k0 : zK M (pc + 3) L st h' r) : zK M pc L ((0, x) :: (2, (c' : Int)) :: st) h r := by
  unfold z_pZ at e
  rcases z_it e with ⟨hx, e⟩ | ⟨-, e⟩
  swap
  · cases e
  obtain ⟨n, hc, rfl⟩ := z_pI_of e
  have hk := zhas hf
  refine ⟨k0.1, fun E p l e R s m args below meth c H locs cells slots n0 s0 Q ls g f => ?_⟩
  have hc0 := g.rp.c0 hc (by omega)
  rw [List.map_cons, List.map_cons, zvR, zrf_ne hc0]
  have hcx : zcn (0, x) := g.cnS.head
  refine zputf (ρ := h.2.1) (μ := z_up h.2.2 c' j x) g hf hfin hc hd ?_ ?_ ?_ (by rcases hx with rfl | rfl <;> rfl) (by rcases hx with rfl | rfl <;> rfl) ?_ (fun H' locs' hr hs => k0.2 E p l e R s m args below meth c H' locs' cells slots n0 s0 Q ls (g.hp g.cnS.tail.tail hr hs g.2.2.2.2.2.2.2.1 g.2.2.2.2.2.2.2.2.1) f)
  · intro a b hab
    rfl
  · intro a b hab
    exact if_neg (fun q => hab.elim (fun z => z q.1) (fun z => z q.2))
  · unfold zfv
    rw [ht]
    rw [z_up_eq]; rfl
  · unfold ztp; rw [if_pos hk, ht, z_up_eq]; exact hcx
theorem k_putR {M : zM} {pc : Nat} {L : List (Nat × zV)} {st : List zV} {h : zH} {r : Option zV × zH} {i k j c' : Nat} {fin : Bool} {x : Nat} {h' : zH} {ty : FieldType} (hty : (∃ n, ty = .object n) ∨ ∃ t, ty = .array t) (hd : decode M.2.1 pc = .ok (.putfield i, 3)) (hf : zFd M.1.cls i k j ty fin) (hfin : fin = true → M.1.name = "<init>" ∧ ∃ T N, classes[k]? = some (M.1.cls, T, N)) (ht : zty k j = 2) (e : z_pR h k c' j x = some h') (k0 : zK M (pc + 3) L st h' r) : zK M pc L ((2, (x : Int)) :: (2, (c' : Int)) :: st) h r := by
  obtain ⟨n, hc, rfl⟩ := z_pR_of e
  have hk := zhas hf
  refine ⟨k0.1, fun E p l e R s m args below meth c H locs cells slots n0 s0 Q ls g f => ?_⟩
  have hc0 := g.rp.c0 hc (by omega)
  rw [List.map_cons, List.map_cons, zvR, zrf_ne hc0]
  have hcx : zcn (2, (x : Int)) := g.cnS.head
  refine zputf (ρ := z_up h.2.1 c' j x) (μ := h.2.2) g hf hfin hc hd ?_ ?_ ?_ (znar hty x) (zfit hty x) ?_ (fun H' locs' hr hs => k0.2 E p l e R s m args below meth c H' locs' cells slots n0 s0 Q ls (g.hp g.cnS.tail.tail hr hs g.2.2.2.2.2.2.2.1 g.2.2.2.2.2.2.2.2.1) f)
  · intro a b hab
    exact if_neg (fun q => hab.elim (fun z => z q.1) (fun z => z q.2))
  · intro a b hab
    rfl
  · unfold zfv
    rw [ht]
    rw [z_up_eq]; rfl
  · unfold ztp; rw [if_pos hk, ht]; trivial
theorem k_iald {M : zM} {pc : Nat} {L : List (Nat × zV)} {st : List zV} {h : zH} {r : Option zV × zH} {c' : Nat} {i : Int} {x : Int} (hd : decode M.2.1 pc = .ok (.iaload, 1)) (e : z_aI h 20 c' i = some x) (k0 : zK M (pc + 1) L ((0, x) :: st) h r) : zK M pc L ((0, i) :: (2, (c' : Int)) :: st) h r := by
  obtain ⟨n, hc, hi, rfl⟩ := z_aI_of e
  refine ⟨k0.1, fun E p l e R s m args below meth c H locs cells slots n0 s0 Q ls g f => ?_⟩
  have hc0 := g.rp.c0 hc (by decide)
  have ha := g.rp.arr hc (by decide) (by decide)
  have hi3 : zi32 i := g.cnS.head
  rw [List.map_cons, List.map_cons, zvR, zrf_ne hc0, zvI]
  refine W.iald g.hx g.hb ha ((g.hK.2 0 _ rfl).1 n _) (fun q => by cases q) (by rw [arrV_size]; exact zin hi3 hi) (v := zcv E (0, x)) ?_ rfl rfl hd (zgo k0 g f (g.cnS.tail.tail.cons (by have := g.rp.2.2.2.1 _ _ _ i.toNat hc; exact this)) rfl)
  rw [arrV_read _ _ (by rw [zI_cl hi3]; omega), zI_cl hi3]
  rfl
theorem k_cald {M : zM} {pc : Nat} {L : List (Nat × zV)} {st : List zV} {h : zH} {r : Option zV × zH} {c' : Nat} {i : Int} {x : Int} (hd : decode M.2.1 pc = .ok (.caload, 1)) (e : z_aI h 21 c' i = some x) (k0 : zK M (pc + 1) L ((0, x) :: st) h r) : zK M pc L ((0, i) :: (2, (c' : Int)) :: st) h r := by
  obtain ⟨n, hc, hi, rfl⟩ := z_aI_of e
  refine ⟨k0.1, fun E p l e R s m args below meth c H locs cells slots n0 s0 Q ls g f => ?_⟩
  have hc0 := g.rp.c0 hc (by decide)
  have ha := g.rp.arr hc (by decide) (by decide)
  have hi3 : zi32 i := g.cnS.head
  rw [List.map_cons, List.map_cons, zvR, zrf_ne hc0, zvI]
  refine W.cald g.hx g.hb ha ((g.hK.2 1 _ rfl).1 n _) (fun q => by cases q) (by rw [arrV_size]; exact zin hi3 hi) (v := zcv E (0, x)) ?_ rfl rfl hd (zgo k0 g f (g.cnS.tail.tail.cons (by have := g.rp.2.2.2.1 _ _ _ i.toNat hc; have h9 : 0 ≤ h.2.2 c' i.toNat ∧ h.2.2 c' i.toNat < 65536 := this; show zi32 _; unfold zi32; omega)) rfl)
  rw [arrV_read _ _ (by rw [zI_cl hi3]; omega), zI_cl hi3]
  rfl
theorem k_zald {M : zM} {pc : Nat} {L : List (Nat × zV)} {st : List zV} {h : zH} {r : Option zV × zH} {c' : Nat} {i : Int} {x : Int} (hd : decode M.2.1 pc = .ok (.baload, 1)) (e : z_aI h 22 c' i = some x) (k0 : zK M (pc + 1) L ((0, x) :: st) h r) : zK M pc L ((0, i) :: (2, (c' : Int)) :: st) h r := by
  obtain ⟨n, hc, hi, rfl⟩ := z_aI_of e
  refine ⟨k0.1, fun E p l e R s m args below meth c H locs cells slots n0 s0 Q ls g f => ?_⟩
  have hc0 := g.rp.c0 hc (by decide)
  have ha := g.rp.arr hc (by decide) (by decide)
  have hi3 : zi32 i := g.cnS.head
  rw [List.map_cons, List.map_cons, zvR, zrf_ne hc0, zvI]
  refine W.zald g.hx g.hb ha ((g.hK.2 2 _ rfl).1 n _) (fun q => by cases q) (by rw [arrV_size]; exact zin hi3 hi) (v := zcv E (0, x)) ?_ rfl rfl hd (zgo k0 g f (g.cnS.tail.tail.cons (by have := g.rp.2.2.2.1 _ _ _ i.toNat hc; exact this)) rfl)
  rw [arrV_read _ _ (by rw [zI_cl hi3]; omega), zI_cl hi3]
  rfl
theorem k_lald {M : zM} {pc : Nat} {L : List (Nat × zV)} {st : List zV} {h : zH} {r : Option zV × zH} {c' : Nat} {i : Int} {x : Int} (hd : decode M.2.1 pc = .ok (.laload, 1)) (e : z_aI h 23 c' i = some x) (k0 : zK M (pc + 1) L ((1, x) :: st) h r) : zK M pc L ((0, i) :: (2, (c' : Int)) :: st) h r := by
  obtain ⟨n, hc, hi, rfl⟩ := z_aI_of e
  refine ⟨k0.1, fun E p l e R s m args below meth c H locs cells slots n0 s0 Q ls g f => ?_⟩
  have hc0 := g.rp.c0 hc (by decide)
  have ha := g.rp.arr hc (by decide) (by decide)
  have hi3 : zi32 i := g.cnS.head
  rw [List.map_cons, List.map_cons, zvR, zrf_ne hc0, zvI]
  refine W.lald g.hx g.hb ha ((g.hK.2 3 _ rfl).1 n _) (fun q => by cases q) (by rw [arrV_size]; exact zin hi3 hi) (v := zcv E (1, x)) ?_ rfl rfl hd (zgo k0 g f (g.cnS.tail.tail.cons (by have := g.rp.2.2.2.1 _ _ _ i.toNat hc; exact this)) rfl)
  rw [arrV_read _ _ (by rw [zI_cl hi3]; omega), zI_cl hi3]
  rfl
theorem k_rald24 {M : zM} {pc : Nat} {L : List (Nat × zV)} {st : List zV} {h : zH} {r : Option zV × zH} {c' : Nat} {i : Int} {x : Nat} (hd : decode M.2.1 pc = .ok (.aaload, 1)) (e : z_aR h 24 c' i = some x) (k0 : zK M (pc + 1) L ((2, (x : Int)) :: st) h r) : zK M pc L ((0, i) :: (2, (c' : Int)) :: st) h r := by
  obtain ⟨n, hc, hi, hx0, rfl⟩ := z_aR_of e
  refine ⟨k0.1, fun E p l e R s m args below meth c H locs cells slots n0 s0 Q ls g f => ?_⟩
  have hc0 := g.rp.c0 hc (by decide)
  have ha := g.rp.arr hc (by decide) (by decide)
  have hi3 : zi32 i := g.cnS.head
  rw [List.map_cons, List.map_cons, zvR, zrf_ne hc0, zvI]
  refine W.aald (ty := .object "ScopeLines$Rule") g.hx g.hb ha ((g.hK.2 4 _ rfl).1 n _) rfl (fun q => by cases q) (by rw [arrV_size]; exact zin hi3 hi) (v := zcv E (2, (x : Int))) ?_ rfl rfl hd (zgo k0 g f (g.cnS.tail.tail.cons (zcn_of hx0)) rfl)
  rw [arrV_read _ _ (by rw [zI_cl hi3]; omega), zI_cl hi3]
  rfl
theorem k_rald25 {M : zM} {pc : Nat} {L : List (Nat × zV)} {st : List zV} {h : zH} {r : Option zV × zH} {c' : Nat} {i : Int} {x : Nat} (hd : decode M.2.1 pc = .ok (.aaload, 1)) (e : z_aR h 25 c' i = some x) (k0 : zK M (pc + 1) L ((2, (x : Int)) :: st) h r) : zK M pc L ((0, i) :: (2, (c' : Int)) :: st) h r := by
  obtain ⟨n, hc, hi, hx0, rfl⟩ := z_aR_of e
  refine ⟨k0.1, fun E p l e R s m args below meth c H locs cells slots n0 s0 Q ls g f => ?_⟩
  have hc0 := g.rp.c0 hc (by decide)
  have ha := g.rp.arr hc (by decide) (by decide)
  have hi3 : zi32 i := g.cnS.head
  rw [List.map_cons, List.map_cons, zvR, zrf_ne hc0, zvI]
  refine W.aald (ty := .object "ScopeLines$Line") g.hx g.hb ha ((g.hK.2 5 _ rfl).1 n _) rfl (fun q => by cases q) (by rw [arrV_size]; exact zin hi3 hi) (v := zcv E (2, (x : Int))) ?_ rfl rfl hd (zgo k0 g f (g.cnS.tail.tail.cons (zcn_of hx0)) rfl)
  rw [arrV_read _ _ (by rw [zI_cl hi3]; omega), zI_cl hi3]
  rfl
theorem k_iast {M : zM} {pc : Nat} {L : List (Nat × zV)} {st : List zV} {h : zH} {r : Option zV × zH} {c' : Nat} {i x : Int} {h' : zH} (hd : decode M.2.1 pc = .ok (.iastore, 1)) (e : z_sI h 20 c' i (x) = some h') (k0 : zK M (pc + 1) L st h' r) : zK M pc L ((0, x) :: (0, i) :: (2, (c' : Int)) :: st) h r := by
  obtain ⟨n, hc, hi, rfl⟩ := z_sI_of e
  refine ⟨k0.1, fun E p l e R s m args below meth c H locs cells slots n0 s0 Q ls g f => ?_⟩
  have hc0 := g.rp.c0 hc (by decide)
  have ha := g.rp.arr hc (by decide) (by decide)
  have hi3 : zi32 i := g.cnS.tail.head
  have hx3 : zcn (0, x) := g.cnS.head
  rw [List.map_cons, List.map_cons, List.map_cons, zvR, zrf_ne hc0, zvI]
  refine W.iast g.hx g.hb ha ((g.hK.2 0 _ rfl).1 n _) (fun q => by cases q) (by rw [arrV_size]; exact zin hi3 hi) rfl rfl hd fun H' e1 z1 oq => ?_
  refine k0.2 E p l e R s m args below meth c H' _ cells slots n0 s0 Q ls (g.hp g.cnS.tail.tail.tail (g.rp.put hc (by decide) (fun _ _ _ => rfl) (fun a b hab => z_up_ne hab) ?_ (fun b => ?_) z1 oq) (g.sf.put hc0 z1 oq) g.2.2.2.2.2.2.2.1 g.2.2.2.2.2.2.2.2.1) f
  · unfold zat
    rw [if_neg (by decide), e1, arrV_store, zI_cl hi3]
    congr 2
    funext b
    unfold updV
    by_cases hb : b = i.toNat
    · subst hb
      rw [if_pos rfl]
      show _ = zav E 20 _ (z_up h.2.2 c' i.toNat (x) c' i.toNat)
      rw [z_up_eq]
      rfl
    · rw [if_neg hb]
      show _ = zav E 20 _ (z_up h.2.2 c' i.toNat (x) c' b)
      rw [z_up_nj hb]
  · by_cases hb : b = i.toNat
    · subst hb
      show zok (ztp 20 _) (z_up h.2.2 c' i.toNat (x) c' i.toNat)
      rw [z_up_eq]
      exact hx3
    · show zok (ztp 20 _) (z_up h.2.2 c' i.toNat (x) c' b)
      rw [z_up_nj hb]
      exact g.rp.2.2.2.1 _ _ _ b hc
theorem k_last {M : zM} {pc : Nat} {L : List (Nat × zV)} {st : List zV} {h : zH} {r : Option zV × zH} {c' : Nat} {i x : Int} {h' : zH} (hd : decode M.2.1 pc = .ok (.lastore, 1)) (e : z_sI h 23 c' i (x) = some h') (k0 : zK M (pc + 1) L st h' r) : zK M pc L ((1, x) :: (0, i) :: (2, (c' : Int)) :: st) h r := by
  obtain ⟨n, hc, hi, rfl⟩ := z_sI_of e
  refine ⟨k0.1, fun E p l e R s m args below meth c H locs cells slots n0 s0 Q ls g f => ?_⟩
  have hc0 := g.rp.c0 hc (by decide)
  have ha := g.rp.arr hc (by decide) (by decide)
  have hi3 : zi32 i := g.cnS.tail.head
  have hx3 : zcn (1, x) := g.cnS.head
  rw [List.map_cons, List.map_cons, List.map_cons, zvR, zrf_ne hc0, zvI]
  refine W.last g.hx g.hb ha ((g.hK.2 3 _ rfl).1 n _) (fun q => by cases q) (by rw [arrV_size]; exact zin hi3 hi) rfl rfl hd fun H' e1 z1 oq => ?_
  refine k0.2 E p l e R s m args below meth c H' _ cells slots n0 s0 Q ls (g.hp g.cnS.tail.tail.tail (g.rp.put hc (by decide) (fun _ _ _ => rfl) (fun a b hab => z_up_ne hab) ?_ (fun b => ?_) z1 oq) (g.sf.put hc0 z1 oq) g.2.2.2.2.2.2.2.1 g.2.2.2.2.2.2.2.2.1) f
  · unfold zat
    rw [if_neg (by decide), e1, arrV_store, zI_cl hi3]
    congr 2
    funext b
    unfold updV
    by_cases hb : b = i.toNat
    · subst hb
      rw [if_pos rfl]
      show _ = zav E 23 _ (z_up h.2.2 c' i.toNat (x) c' i.toNat)
      rw [z_up_eq]
      rfl
    · rw [if_neg hb]
      show _ = zav E 23 _ (z_up h.2.2 c' i.toNat (x) c' b)
      rw [z_up_nj hb]
  · by_cases hb : b = i.toNat
    · subst hb
      show zok (ztp 23 _) (z_up h.2.2 c' i.toNat (x) c' i.toNat)
      rw [z_up_eq]
      exact hx3
    · show zok (ztp 23 _) (z_up h.2.2 c' i.toNat (x) c' b)
      rw [z_up_nj hb]
      exact g.rp.2.2.2.1 _ _ _ b hc
theorem k_cast {M : zM} {pc : Nat} {L : List (Nat × zV)} {st : List zV} {h : zH} {r : Option zV × zH} {c' : Nat} {i x : Int} {h' : zH} (hd : decode M.2.1 pc = .ok (.castore, 1)) (e : z_sI h 21 c' i (x % 65536) = some h') (k0 : zK M (pc + 1) L st h' r) : zK M pc L ((0, x) :: (0, i) :: (2, (c' : Int)) :: st) h r := by
  obtain ⟨n, hc, hi, rfl⟩ := z_sI_of e
  refine ⟨k0.1, fun E p l e R s m args below meth c H locs cells slots n0 s0 Q ls g f => ?_⟩
  have hc0 := g.rp.c0 hc (by decide)
  have ha := g.rp.arr hc (by decide) (by decide)
  have hi3 : zi32 i := g.cnS.tail.head
  have hx3 : zcn (0, x) := g.cnS.head
  rw [List.map_cons, List.map_cons, List.map_cons, zvR, zrf_ne hc0, zvI]
  refine W.cast g.hx g.hb ha ((g.hK.2 1 _ rfl).1 n _) (fun q => by cases q) (by rw [arrV_size]; exact zin hi3 hi) rfl rfl hd fun H' e1 z1 oq => ?_
  refine k0.2 E p l e R s m args below meth c H' _ cells slots n0 s0 Q ls (g.hp g.cnS.tail.tail.tail (g.rp.put hc (by decide) (fun _ _ _ => rfl) (fun a b hab => z_up_ne hab) ?_ (fun b => ?_) z1 oq) (g.sf.put hc0 z1 oq) g.2.2.2.2.2.2.2.1 g.2.2.2.2.2.2.2.2.1) f
  · unfold zat
    rw [if_neg (by decide), e1, arrV_store, zI_cl hi3]
    congr 2
    funext b
    unfold updV
    by_cases hb : b = i.toNat
    · subst hb
      rw [if_pos rfl]
      show _ = zav E 21 _ (z_up h.2.2 c' i.toNat (x % 65536) c' i.toNat)
      rw [z_up_eq]
      exact znar_c x
    · rw [if_neg hb]
      show _ = zav E 21 _ (z_up h.2.2 c' i.toNat (x % 65536) c' b)
      rw [z_up_nj hb]
  · by_cases hb : b = i.toNat
    · subst hb
      show zok (ztp 21 _) (z_up h.2.2 c' i.toNat (x % 65536) c' i.toNat)
      rw [z_up_eq]
      exact ⟨by omega, by omega⟩
    · show zok (ztp 21 _) (z_up h.2.2 c' i.toNat (x % 65536) c' b)
      rw [z_up_nj hb]
      exact g.rp.2.2.2.1 _ _ _ b hc
theorem k_zast {M : zM} {pc : Nat} {L : List (Nat × zV)} {st : List zV} {h : zH} {r : Option zV × zH} {c' : Nat} {i x : Int} {h' : zH} (hd : decode M.2.1 pc = .ok (.bastore, 1)) (e : z_sI h 22 c' i (x % 2) = some h') (k0 : zK M (pc + 1) L st h' r) : zK M pc L ((0, x) :: (0, i) :: (2, (c' : Int)) :: st) h r := by
  obtain ⟨n, hc, hi, rfl⟩ := z_sI_of e
  refine ⟨k0.1, fun E p l e R s m args below meth c H locs cells slots n0 s0 Q ls g f => ?_⟩
  have hc0 := g.rp.c0 hc (by decide)
  have ha := g.rp.arr hc (by decide) (by decide)
  have hi3 : zi32 i := g.cnS.tail.head
  have hx3 : zcn (0, x) := g.cnS.head
  rw [List.map_cons, List.map_cons, List.map_cons, zvR, zrf_ne hc0, zvI]
  refine W.zast g.hx g.hb ha ((g.hK.2 2 _ rfl).1 n _) (fun q => by cases q) (by rw [arrV_size]; exact zin hi3 hi) rfl rfl hd fun H' e1 z1 oq => ?_
  refine k0.2 E p l e R s m args below meth c H' _ cells slots n0 s0 Q ls (g.hp g.cnS.tail.tail.tail (g.rp.put hc (by decide) (fun _ _ _ => rfl) (fun a b hab => z_up_ne hab) ?_ (fun b => ?_) z1 oq) (g.sf.put hc0 z1 oq) g.2.2.2.2.2.2.2.1 g.2.2.2.2.2.2.2.2.1) f
  · unfold zat
    rw [if_neg (by decide), e1, arrV_store, zI_cl hi3]
    congr 2
    funext b
    unfold updV
    by_cases hb : b = i.toNat
    · subst hb
      rw [if_pos rfl]
      show _ = zav E 22 _ (z_up h.2.2 c' i.toNat (x % 2) c' i.toNat)
      rw [z_up_eq]
      exact znar_z x
    · rw [if_neg hb]
      show _ = zav E 22 _ (z_up h.2.2 c' i.toNat (x % 2) c' b)
      rw [z_up_nj hb]
  · by_cases hb : b = i.toNat
    · subst hb
      show zok (ztp 22 _) (z_up h.2.2 c' i.toNat (x % 2) c' i.toNat)
      rw [z_up_eq]
      show zi32 _; unfold zi32; omega
    · show zok (ztp 22 _) (z_up h.2.2 c' i.toNat (x % 2) c' b)
      rw [z_up_nj hb]
      exact g.rp.2.2.2.1 _ _ _ b hc
end
section
/-! Rows: new cells, calls, returns, switches, the script. -/
theorem zsl_new (h : zH) (k n : Nat) : zsl (z_new h k n) = zsl h + n := by
  unfold zsl z_new
  simp
theorem zlen_new (h : zH) (k n : Nat) : (z_new h k n).1.length = h.1.length + 1 := by
  unfold z_new
  simp
theorem zok_0 (t : Nat) : zok t 0 := by
  unfold zok
  split
  · unfold zi32; omega
  · unfold zi64; omega
  · omega
  · trivial
/-- a cell more -/
theorem zRp.new {E : zE} {h : zH} {H H' : Heap} (hR : zRp E h H) {k n : Nat} (hat : zat E (z_new h k n) h.1.length k n H') (z : H'.size = H.size + 1) (oq : ∀ q : Nat, q < H.size → H'[q]? = H[q]?) : zRp E (z_new h k n) H' := by
  obtain ⟨r1, r2, r3, r4, r5⟩ := hR
  have r6 := r5.2.1
  have hpos : 0 < h.1.length := (List.getElem?_eq_some_iff.mp r2).1
  have hl : ∀ c, c ≠ h.1.length → (z_new h k n).1[c]? = h.1[c]? := by
    intro c hc
    show (h.1 ++ [(k, n)])[c]? = _
    by_cases hlt : c < h.1.length
    · rw [List.getElem?_append_left hlt]
    · rw [List.getElem?_append_right (by omega), List.getElem?_eq_none (by simp; omega), List.getElem?_eq_none (by omega)]
  have hs : (z_new h k n).1[h.1.length]? = some (k, n) := by
    show (h.1 ++ [(k, n)])[h.1.length]? = _
    rw [List.getElem?_append_right (Nat.le_refl _)]
    simp
  refine ⟨by rw [z, r1, zlen_new]; omega, by rw [hl 0 (by omega)]; exact r2, fun c k' n' g0 g1 => ?_, fun c k' n' j g1 => ?_, ?_⟩
  · by_cases he : c = h.1.length
    · subst he
      cases hs.symm.trans g1
      exact hat
    · rw [hl c he] at g1
      have hlt := (List.getElem?_eq_some_iff.mp g1).1
      exact (r3 c k' n' g0 g1).same (fun j => if_neg he) (fun j => if_neg he) (oq _ (by omega))
  · by_cases he : c = h.1.length
    · subst he
      show zok _ (if h.1.length = h.1.length then 0 else _)
      rw [if_pos rfl]
      exact zok_0 _
    · rw [hl c he] at g1
      show zok _ (if c = h.1.length then 0 else _)
      rw [if_neg he]
      exact r4 c k' n' j g1
  · refine ⟨by rw [oq _ (by rw [r1]; omega)]; exact r5.1, r6, fun j hj => ?_⟩
    rw [r5.2.2 j hj]
    show _ = Int32.ofInt (if 0 = h.1.length then 0 else _)
    rw [if_neg (by omega)]
theorem zSf.new {E : zE} {H0 H H' : Heap} {locs : List Loc} (hS : zSf E H0 H locs) (hB : E.2.2.1 < H.size) (z : H'.size = H.size + 1) (oq : ∀ q : Nat, q < H.size → H'[q]? = H[q]?) : zSf E H0 H' locs := by
  obtain ⟨s1, s2, s3⟩ := hS
  exact ⟨fun q hq => by rw [oq q (by omega)]; exact s1 q hq, s2, by omega⟩
theorem zRp.B {E : zE} {h : zH} {H : Heap} (hR : zRp E h H) : E.2.2.1 < H.size := by
  have hpos : 0 < h.1.length := (List.getElem?_eq_some_iff.mp hR.2.1).1
  have := hR.1
  omega
theorem zRp.l0 {E : zE} {h : zH} {H : Heap} (hR : zRp E h H) : h.1.length ≠ 0 := by
  have hpos : 0 < h.1.length := (List.getElem?_eq_some_iff.mp hR.2.1).1
  omega
/-- a class that an instruction of the class own makes objects of -/
def zNw (own : String) (i k N : Nat) : Prop := ∃ C T, zCk k C T N ∧ (∀ j, j < N → ∃ ty, parseFieldDescriptor (T j).2.2.1 = some ty ∧ defaultValue ty = zdf (zty k j)) ∧ Cond.classLink own i C ∈ zGW ∧ Cond.instantiable C N ∈ zGW ∧ Cond.initialized C ∈ zGW
theorem zfv_0 (E : zE) (k j : Nat) : zfv E k j 0 0 = zdf (zty k j) := by
  unfold zfv zdf zrf
  split <;> rfl
theorem k_new {M : zM} {pc : Nat} {L : List (Nat × zV)} {st : List zV} {h : zH} {r : Option zV × zH} {i k N : Nat} (hd : decode M.2.1 pc = .ok (.new i, 3)) (hw : zNw M.1.cls i k N) (k0 : zK M (pc + 3) L ((2, (h.1.length : Int)) :: st) (z_new h k N) r) : zK M pc L st h r := by
  obtain ⟨C, T, ⟨hk, hcl, hin, ⟨ty0, hty⟩, hnm⟩, hdf, hlink, hins, hini⟩ := hw
  have k1 := k0.1
  rw [zlen_new, zsl_new] at k1
  refine ⟨⟨by omega, by omega⟩, fun E p l e R s m args below meth c H locs cells slots n0 s0 Q ls g f => ?_⟩
  have hKn := g.hK.1 k _ hcl
  obtain ⟨b1, b2, b3, b4⟩ := g.2.2.2.2.2.2.2
  refine W.newcK g.hx g.hb g.own (g.hts _ hlink) (g.hts _ hins) (g.hts _ hini) rfl hd (by omega) (by omega) hKn.2.1 rfl fun H' kC hkC e1 z1 o1 => ?_
  have hsz : H.size = E.2.2.1 + h.1.length := g.rp.1
  have hat : zat E (z_new h k N) h.1.length k N H' := by
    unfold zat
    rw [if_pos hk]
    refine ⟨_, hcl, rfl, ?_⟩
    rw [← hsz]
    refine (u_born ty0 g.hts hin hKn hkC e1 hty).to fun j hj => ?_
    obtain ⟨ty, g1, g2⟩ := hdf j hj
    cases (hty j hj).symm.trans g1
    show defaultValue (ty0 j) = zfv E k j (if h.1.length = h.1.length then 0 else _) (if h.1.length = h.1.length then 0 else _)
    rw [if_pos rfl, if_pos rfl, g2, zfv_0]
  have g2 := g.hp (st' := (2, (h.1.length : Int)) :: st) (cells' := cells + 1) (slots' := slots + N) (g.cnS.cons (zcn_of g.rp.l0)) (g.rp.new hat z1 o1) (g.sf.new g.rp.B z1 o1) (by rw [zlen_new]; omega) (by rw [zsl_new]; omega)
  have q := k0.2 E p l e R s m args below meth c H' locs (cells + 1) (slots + N) n0 s0 Q ls g2 f
  rw [List.map_cons, zvR, zrf_ne g.rp.l0, ← hsz] at q
  exact q
theorem k_nwi {M : zM} {pc : Nat} {L : List (Nat × zV)} {st : List zV} {h : zH} {r : Option zV × zH} {n : Int} {h' : zH} (hd : decode M.2.1 pc = .ok (.newarray .int, 2)) (hw : Cond.arrayClass .int ∈ zGW) (e : z_nwA h 20 n = some h') (k0 : zK M (pc + 2) L ((2, (h.1.length : Int)) :: st) h' r) : zK M pc L ((0, n) :: st) h r := by
  unfold z_nwA at e
  rcases z_it e with ⟨hn, e⟩ | ⟨-, e⟩
  swap
  · cases e
  cases e
  have k1 := k0.1
  rw [zlen_new, zsl_new] at k1
  refine ⟨⟨by omega, by omega⟩, fun E p l e R s m args below meth c H locs cells slots n0 s0 Q ls g f => ?_⟩
  obtain ⟨b1, b2, b3, b4⟩ := g.2.2.2.2.2.2.2
  have hn3 : zi32 n := g.cnS.head
  have hcl := zI_cl hn3
  have hsz : H.size = E.2.2.1 + h.1.length := g.rp.1
  rw [List.map_cons, zvI]
  refine va_newaK (N := n.toNat) (atype := .int) g.hx g.hb (g.hts _ hw) rfl hd rfl (by rw [zbl0 hn3]; omega) hcl (by show n.toNat * _ ≤ 536870912; have : componentBytes (newarray.typeOf .int) ≤ 8 := by decide
                                                                                                                    have h9 : n.toNat ≤ 100000 := by omega
                                                                                                                    exact Nat.le_trans (Nat.mul_le_mul h9 this) (by decide)) (by omega) (by omega) rfl fun H' cA e1 z1 o1 hAr hNm => ?_
  have hA : cA = E.2.1 0 := by
    have h8 := (g.hK.2 0 _ rfl).2
    exact Option.some.inj (hNm.symm.trans h8)
  subst hA
  have hat : zat E (z_new h 20 n.toNat) h.1.length 20 n.toNat H' := by
    unfold zat
    rw [if_neg (by decide), ← hsz, e1]
    congr 2
    funext j
    show _ = zav E 20 (if h.1.length = h.1.length then 0 else _) (if h.1.length = h.1.length then 0 else _)
    rw [if_pos rfl, if_pos rfl]
    rfl
  have g2 := g.hp (st' := (2, (h.1.length : Int)) :: st) (cells' := cells + 1) (slots' := slots + n.toNat) (g.cnS.tail.cons (zcn_of g.rp.l0)) (g.rp.new hat z1 o1) (g.sf.new g.rp.B z1 o1) (by rw [zlen_new]; omega) (by rw [zsl_new]; omega)
  have q := k0.2 E p l e R s m args below meth c H' locs (cells + 1) (slots + n.toNat) n0 s0 Q ls g2 f
  rw [List.map_cons, zvR, zrf_ne g.rp.l0, ← hsz] at q
  exact q
theorem k_nwc {M : zM} {pc : Nat} {L : List (Nat × zV)} {st : List zV} {h : zH} {r : Option zV × zH} {n : Int} {h' : zH} (hd : decode M.2.1 pc = .ok (.newarray .char, 2)) (hw : Cond.arrayClass .char ∈ zGW) (e : z_nwA h 21 n = some h') (k0 : zK M (pc + 2) L ((2, (h.1.length : Int)) :: st) h' r) : zK M pc L ((0, n) :: st) h r := by
  unfold z_nwA at e
  rcases z_it e with ⟨hn, e⟩ | ⟨-, e⟩
  swap
  · cases e
  cases e
  have k1 := k0.1
  rw [zlen_new, zsl_new] at k1
  refine ⟨⟨by omega, by omega⟩, fun E p l e R s m args below meth c H locs cells slots n0 s0 Q ls g f => ?_⟩
  obtain ⟨b1, b2, b3, b4⟩ := g.2.2.2.2.2.2.2
  have hn3 : zi32 n := g.cnS.head
  have hcl := zI_cl hn3
  have hsz : H.size = E.2.2.1 + h.1.length := g.rp.1
  rw [List.map_cons, zvI]
  refine va_newaK (N := n.toNat) (atype := .char) g.hx g.hb (g.hts _ hw) rfl hd rfl (by rw [zbl0 hn3]; omega) hcl (by show n.toNat * _ ≤ 536870912; have : componentBytes (newarray.typeOf .char) ≤ 8 := by decide
                                                                                                                    have h9 : n.toNat ≤ 100000 := by omega
                                                                                                                    exact Nat.le_trans (Nat.mul_le_mul h9 this) (by decide)) (by omega) (by omega) rfl fun H' cA e1 z1 o1 hAr hNm => ?_
  have hA : cA = E.2.1 1 := by
    have h8 := (g.hK.2 1 _ rfl).2
    exact Option.some.inj (hNm.symm.trans h8)
  subst hA
  have hat : zat E (z_new h 21 n.toNat) h.1.length 21 n.toNat H' := by
    unfold zat
    rw [if_neg (by decide), ← hsz, e1]
    congr 2
    funext j
    show _ = zav E 21 (if h.1.length = h.1.length then 0 else _) (if h.1.length = h.1.length then 0 else _)
    rw [if_pos rfl, if_pos rfl]
    rfl
  have g2 := g.hp (st' := (2, (h.1.length : Int)) :: st) (cells' := cells + 1) (slots' := slots + n.toNat) (g.cnS.tail.cons (zcn_of g.rp.l0)) (g.rp.new hat z1 o1) (g.sf.new g.rp.B z1 o1) (by rw [zlen_new]; omega) (by rw [zsl_new]; omega)
  have q := k0.2 E p l e R s m args below meth c H' locs (cells + 1) (slots + n.toNat) n0 s0 Q ls g2 f
  rw [List.map_cons, zvR, zrf_ne g.rp.l0, ← hsz] at q
  exact q
theorem k_nwz {M : zM} {pc : Nat} {L : List (Nat × zV)} {st : List zV} {h : zH} {r : Option zV × zH} {n : Int} {h' : zH} (hd : decode M.2.1 pc = .ok (.newarray .boolean, 2)) (hw : Cond.arrayClass .boolean ∈ zGW) (e : z_nwA h 22 n = some h') (k0 : zK M (pc + 2) L ((2, (h.1.length : Int)) :: st) h' r) : zK M pc L ((0, n) :: st) h r := by
  unfold z_nwA at e
  rcases z_it e with ⟨hn, e⟩ | ⟨-, e⟩
  swap
  · cases e
  cases e
  have k1 := k0.1
  rw [zlen_new, zsl_new] at k1
  refine ⟨⟨by omega, by omega⟩, fun E p l e R s m args below meth c H locs cells slots n0 s0 Q ls g f => ?_⟩
  obtain ⟨b1, b2, b3, b4⟩ := g.2.2.2.2.2.2.2
  have hn3 : zi32 n := g.cnS.head
  have hcl := zI_cl hn3
  have hsz : H.size = E.2.2.1 + h.1.length := g.rp.1
  rw [List.map_cons, zvI]
  refine va_newaK (N := n.toNat) (atype := .boolean) g.hx g.hb (g.hts _ hw) rfl hd rfl (by rw [zbl0 hn3]; omega) hcl (by show n.toNat * _ ≤ 536870912; have : componentBytes (newarray.typeOf .boolean) ≤ 8 := by decide
                                                                                                                    have h9 : n.toNat ≤ 100000 := by omega
                                                                                                                    exact Nat.le_trans (Nat.mul_le_mul h9 this) (by decide)) (by omega) (by omega) rfl fun H' cA e1 z1 o1 hAr hNm => ?_
  have hA : cA = E.2.1 2 := by
    have h8 := (g.hK.2 2 _ rfl).2
    exact Option.some.inj (hNm.symm.trans h8)
  subst hA
  have hat : zat E (z_new h 22 n.toNat) h.1.length 22 n.toNat H' := by
    unfold zat
    rw [if_neg (by decide), ← hsz, e1]
    congr 2
    funext j
    show _ = zav E 22 (if h.1.length = h.1.length then 0 else _) (if h.1.length = h.1.length then 0 else _)
    rw [if_pos rfl, if_pos rfl]
    rfl
  have g2 := g.hp (st' := (2, (h.1.length : Int)) :: st) (cells' := cells + 1) (slots' := slots + n.toNat) (g.cnS.tail.cons (zcn_of g.rp.l0)) (g.rp.new hat z1 o1) (g.sf.new g.rp.B z1 o1) (by rw [zlen_new]; omega) (by rw [zsl_new]; omega)
  have q := k0.2 E p l e R s m args below meth c H' locs (cells + 1) (slots + n.toNat) n0 s0 Q ls g2 f
  rw [List.map_cons, zvR, zrf_ne g.rp.l0, ← hsz] at q
  exact q
theorem k_nwl {M : zM} {pc : Nat} {L : List (Nat × zV)} {st : List zV} {h : zH} {r : Option zV × zH} {n : Int} {h' : zH} (hd : decode M.2.1 pc = .ok (.newarray .long, 2)) (hw : Cond.arrayClass .long ∈ zGW) (e : z_nwA h 23 n = some h') (k0 : zK M (pc + 2) L ((2, (h.1.length : Int)) :: st) h' r) : zK M pc L ((0, n) :: st) h r := by
  unfold z_nwA at e
  rcases z_it e with ⟨hn, e⟩ | ⟨-, e⟩
  swap
  · cases e
  cases e
  have k1 := k0.1
  rw [zlen_new, zsl_new] at k1
  refine ⟨⟨by omega, by omega⟩, fun E p l e R s m args below meth c H locs cells slots n0 s0 Q ls g f => ?_⟩
  obtain ⟨b1, b2, b3, b4⟩ := g.2.2.2.2.2.2.2
  have hn3 : zi32 n := g.cnS.head
  have hcl := zI_cl hn3
  have hsz : H.size = E.2.2.1 + h.1.length := g.rp.1
  rw [List.map_cons, zvI]
  refine va_newaK (N := n.toNat) (atype := .long) g.hx g.hb (g.hts _ hw) rfl hd rfl (by rw [zbl0 hn3]; omega) hcl (by show n.toNat * _ ≤ 536870912; have : componentBytes (newarray.typeOf .long) ≤ 8 := by decide
                                                                                                                    have h9 : n.toNat ≤ 100000 := by omega
                                                                                                                    exact Nat.le_trans (Nat.mul_le_mul h9 this) (by decide)) (by omega) (by omega) rfl fun H' cA e1 z1 o1 hAr hNm => ?_
  have hA : cA = E.2.1 3 := by
    have h8 := (g.hK.2 3 _ rfl).2
    exact Option.some.inj (hNm.symm.trans h8)
  subst hA
  have hat : zat E (z_new h 23 n.toNat) h.1.length 23 n.toNat H' := by
    unfold zat
    rw [if_neg (by decide), ← hsz, e1]
    congr 2
    funext j
    show _ = zav E 23 (if h.1.length = h.1.length then 0 else _) (if h.1.length = h.1.length then 0 else _)
    rw [if_pos rfl, if_pos rfl]
    rfl
  have g2 := g.hp (st' := (2, (h.1.length : Int)) :: st) (cells' := cells + 1) (slots' := slots + n.toNat) (g.cnS.tail.cons (zcn_of g.rp.l0)) (g.rp.new hat z1 o1) (g.sf.new g.rp.B z1 o1) (by rw [zlen_new]; omega) (by rw [zsl_new]; omega)
  have q := k0.2 E p l e R s m args below meth c H' locs (cells + 1) (slots + n.toNat) n0 s0 Q ls g2 f
  rw [List.map_cons, zvR, zrf_ne g.rp.l0, ← hsz] at q
  exact q
theorem k_nwR {M : zM} {pc : Nat} {L : List (Nat × zV)} {st : List zV} {h : zH} {r : Option zV × zH} {n : Int} {i : Nat} {h' : zH} (hd : decode M.2.1 pc = .ok (.anewarray i, 3)) (hw : Cond.classLink M.1.cls i "ScopeLines$Rule" ∈ zGW) (e : z_nwA h 24 n = some h') (k0 : zK M (pc + 3) L ((2, (h.1.length : Int)) :: st) h' r) : zK M pc L ((0, n) :: st) h r := by
  unfold z_nwA at e
  rcases z_it e with ⟨hn, e⟩ | ⟨-, e⟩
  swap
  · cases e
  cases e
  have k1 := k0.1
  rw [zlen_new, zsl_new] at k1
  refine ⟨⟨by omega, by omega⟩, fun E p l e R s m args below meth c H locs cells slots n0 s0 Q ls g f => ?_⟩
  obtain ⟨b1, b2, b3, b4⟩ := g.2.2.2.2.2.2.2
  have hn3 : zi32 n := g.cnS.head
  have hcl := zI_cl hn3
  have hsz : H.size = E.2.2.1 + h.1.length := g.rp.1
  rw [List.map_cons, zvI]
  refine W.anew g.hx g.hb g.own (g.hts _ hw) (va_AO.use g.hst.2.2.1.1) rfl hd rfl (by rw [zbl0 hn3]; omega) (by rw [hcl]; omega) (by omega) (by rw [hcl]; omega) fun cA kA comp f1 f2 f3 f4 => ?_
  rw [hcl]
  have hA : cA = E.2.1 4 := by
    obtain ⟨_, _, _, _, _, h8⟩ := (g.hK.2 4 _ rfl).2
    exact Option.some.inj (f1.symm.trans h8)
  subst hA
  generalize hH1 : H.push _ = H'
  have z1 : H'.size = H.size + 1 := by rw [← hH1, Array.size_push]
  have e1 : H'[H.size]? = some (arrV (E.2.1 4) n.toNat (fun _ => .null)) := by rw [← hH1, Array.getElem?_push_size, ← arrV_new]
  have o1 : ∀ q : Nat, q < H.size → H'[q]? = H[q]? := fun q hq => by rw [← hH1, Array.getElem?_push, if_neg (Nat.ne_of_lt hq)]
  have hat : zat E (z_new h 24 n.toNat) h.1.length 24 n.toNat H' := by
    unfold zat
    rw [if_neg (by decide), ← hsz, e1]
    congr 2
    funext j
    show _ = zav E 24 (if h.1.length = h.1.length then 0 else _) (if h.1.length = h.1.length then 0 else _)
    rw [if_pos rfl, if_pos rfl]
    rfl
  have g2 := g.hp (st' := (2, (h.1.length : Int)) :: st) (cells' := cells + 1) (slots' := slots + n.toNat) (g.cnS.tail.cons (zcn_of g.rp.l0)) (g.rp.new hat z1 o1) (g.sf.new g.rp.B z1 o1) (by rw [zlen_new]; omega) (by rw [zsl_new]; omega)
  have q := k0.2 E p l e R s m args below meth c H' locs (cells + 1) (slots + n.toNat) n0 s0 Q ls g2 f
  rw [List.map_cons, zvR, zrf_ne g.rp.l0, ← hsz] at q
  exact q
theorem k_nwL {M : zM} {pc : Nat} {L : List (Nat × zV)} {st : List zV} {h : zH} {r : Option zV × zH} {n : Int} {i : Nat} {h' : zH} (hd : decode M.2.1 pc = .ok (.anewarray i, 3)) (hw : Cond.classLink M.1.cls i "ScopeLines$Line" ∈ zGW) (e : z_nwA h 25 n = some h') (k0 : zK M (pc + 3) L ((2, (h.1.length : Int)) :: st) h' r) : zK M pc L ((0, n) :: st) h r := by
  unfold z_nwA at e
  rcases z_it e with ⟨hn, e⟩ | ⟨-, e⟩
  swap
  · cases e
  cases e
  have k1 := k0.1
  rw [zlen_new, zsl_new] at k1
  refine ⟨⟨by omega, by omega⟩, fun E p l e R s m args below meth c H locs cells slots n0 s0 Q ls g f => ?_⟩
  obtain ⟨b1, b2, b3, b4⟩ := g.2.2.2.2.2.2.2
  have hn3 : zi32 n := g.cnS.head
  have hcl := zI_cl hn3
  have hsz : H.size = E.2.2.1 + h.1.length := g.rp.1
  rw [List.map_cons, zvI]
  refine W.anew g.hx g.hb g.own (g.hts _ hw) (va_AO.use g.hst.2.2.1.2) rfl hd rfl (by rw [zbl0 hn3]; omega) (by rw [hcl]; omega) (by omega) (by rw [hcl]; omega) fun cA kA comp f1 f2 f3 f4 => ?_
  rw [hcl]
  have hA : cA = E.2.1 5 := by
    obtain ⟨_, _, _, _, _, h8⟩ := (g.hK.2 5 _ rfl).2
    exact Option.some.inj (f1.symm.trans h8)
  subst hA
  generalize hH1 : H.push _ = H'
  have z1 : H'.size = H.size + 1 := by rw [← hH1, Array.size_push]
  have e1 : H'[H.size]? = some (arrV (E.2.1 5) n.toNat (fun _ => .null)) := by rw [← hH1, Array.getElem?_push_size, ← arrV_new]
  have o1 : ∀ q : Nat, q < H.size → H'[q]? = H[q]? := fun q hq => by rw [← hH1, Array.getElem?_push, if_neg (Nat.ne_of_lt hq)]
  have hat : zat E (z_new h 25 n.toNat) h.1.length 25 n.toNat H' := by
    unfold zat
    rw [if_neg (by decide), ← hsz, e1]
    congr 2
    funext j
    show _ = zav E 25 (if h.1.length = h.1.length then 0 else _) (if h.1.length = h.1.length then 0 else _)
    rw [if_pos rfl, if_pos rfl]
    rfl
  have g2 := g.hp (st' := (2, (h.1.length : Int)) :: st) (cells' := cells + 1) (slots' := slots + n.toNat) (g.cnS.tail.cons (zcn_of g.rp.l0)) (g.rp.new hat z1 o1) (g.sf.new g.rp.B z1 o1) (by rw [zlen_new]; omega) (by rw [zsl_new]; omega)
  have q := k0.2 E p l e R s m args below meth c H' locs (cells + 1) (slots + n.toNat) n0 s0 Q ls g2 f
  rw [List.map_cons, zvR, zrf_ne g.rp.l0, ← hsz] at q
  exact q
theorem k_rast24 {M : zM} {pc : Nat} {L : List (Nat × zV)} {st : List zV} {h : zH} {r : Option zV × zH} {c' x kr Nr : Nat} {Tr : u_T} {i : Int} {h' : zH} (hr : classes[kr]? = some ("ScopeLines$Rule", Tr, Nr)) (hr2 : kr < 20) (hd : decode M.2.1 pc = .ok (.aastore, 1)) (e : z_sR h 24 kr c' i x = some h') (k0 : zK M (pc + 1) L st h' r) : zK M pc L ((2, (x : Int)) :: (0, i) :: (2, (c' : Int)) :: st) h r := by
  obtain ⟨n, n2, hc, hx, hi, rfl⟩ := z_sR_of e
  refine ⟨k0.1, fun E p l e R s m args below meth c H locs cells slots n0 s0 Q ls g f => ?_⟩
  have hc0 := g.rp.c0 hc (by decide)
  have hx0 := g.rp.c0 hx (by omega)
  have ha := g.rp.arr hc (by decide) (by decide)
  have hi3 : zi32 i := g.cnS.tail.head
  obtain ⟨r', hr', cellV, q1, q2, q3, -⟩ := g.rp.ob hx hr2 hr 0 _ rfl
  have hcls := (g.hK.1 kr _ hr).2
  obtain ⟨kA, comp, u1, u2, u3, -⟩ := (g.hK.2 4 _ rfl).2
  have hcomp : comp = E.1.1 kr := Option.some.inj (u3.symm.trans hcls.1)
  subst hcomp
  obtain ⟨kC, hkC, hkC2⟩ := hcls.2
  rw [List.map_cons, List.map_cons, List.map_cons, zvR, zvR, zrf_ne hc0, zrf_ne hx0, zvI]
  refine W.aast g.hx g.hb ha (fun q h => by cases h) (fun h => by cases h) u1 u2 rfl hkC ⟨by rw [zbl0 hi3]; omega, by show _ < (arrV _ _ _).slots.size; rw [arrV_size, zI_cl hi3]; omega⟩ q1 (fun q h => by rw [q3] at h; cases h) (by rw [q2]; exact hkC) (by rw [q2]; exact va_assign ⟨hcls.1, kC, hkC, hkC2⟩) rfl rfl hd fun H' e1 z1 oq => ?_
  refine k0.2 E p l e R s m args below meth c H' _ cells slots n0 s0 Q ls (g.hp g.cnS.tail.tail.tail (g.rp.put hc (by decide) (fun a b hab => z_up_ne hab) (fun _ _ _ => rfl) ?_ (fun b => trivial) z1 oq) (g.sf.put hc0 z1 oq) g.2.2.2.2.2.2.2.1 g.2.2.2.2.2.2.2.2.1) f
  unfold zat
  rw [if_neg (by decide), e1, arrV_store, zI_cl hi3]
  congr 2
  funext b
  unfold updV
  by_cases hb : b = i.toNat
  · subst hb
    rw [if_pos rfl]
    show _ = zav E 24 (z_up h.2.1 c' i.toNat x c' i.toNat) _
    rw [z_up_eq]
    show _ = zrf E x
    rw [zrf_ne hx0]
  · rw [if_neg hb]
    show _ = zav E 24 (z_up h.2.1 c' i.toNat x c' b) _
    rw [z_up_nj hb]
theorem k_rast25 {M : zM} {pc : Nat} {L : List (Nat × zV)} {st : List zV} {h : zH} {r : Option zV × zH} {c' x kr Nr : Nat} {Tr : u_T} {i : Int} {h' : zH} (hr : classes[kr]? = some ("ScopeLines$Line", Tr, Nr)) (hr2 : kr < 20) (hd : decode M.2.1 pc = .ok (.aastore, 1)) (e : z_sR h 25 kr c' i x = some h') (k0 : zK M (pc + 1) L st h' r) : zK M pc L ((2, (x : Int)) :: (0, i) :: (2, (c' : Int)) :: st) h r := by
  obtain ⟨n, n2, hc, hx, hi, rfl⟩ := z_sR_of e
  refine ⟨k0.1, fun E p l e R s m args below meth c H locs cells slots n0 s0 Q ls g f => ?_⟩
  have hc0 := g.rp.c0 hc (by decide)
  have hx0 := g.rp.c0 hx (by omega)
  have ha := g.rp.arr hc (by decide) (by decide)
  have hi3 : zi32 i := g.cnS.tail.head
  obtain ⟨r', hr', cellV, q1, q2, q3, -⟩ := g.rp.ob hx hr2 hr 0 _ rfl
  have hcls := (g.hK.1 kr _ hr).2
  obtain ⟨kA, comp, u1, u2, u3, -⟩ := (g.hK.2 5 _ rfl).2
  have hcomp : comp = E.1.1 kr := Option.some.inj (u3.symm.trans hcls.1)
  subst hcomp
  obtain ⟨kC, hkC, hkC2⟩ := hcls.2
  rw [List.map_cons, List.map_cons, List.map_cons, zvR, zvR, zrf_ne hc0, zrf_ne hx0, zvI]
  refine W.aast g.hx g.hb ha (fun q h => by cases h) (fun h => by cases h) u1 u2 rfl hkC ⟨by rw [zbl0 hi3]; omega, by show _ < (arrV _ _ _).slots.size; rw [arrV_size, zI_cl hi3]; omega⟩ q1 (fun q h => by rw [q3] at h; cases h) (by rw [q2]; exact hkC) (by rw [q2]; exact va_assign ⟨hcls.1, kC, hkC, hkC2⟩) rfl rfl hd fun H' e1 z1 oq => ?_
  refine k0.2 E p l e R s m args below meth c H' _ cells slots n0 s0 Q ls (g.hp g.cnS.tail.tail.tail (g.rp.put hc (by decide) (fun a b hab => z_up_ne hab) (fun _ _ _ => rfl) ?_ (fun b => trivial) z1 oq) (g.sf.put hc0 z1 oq) g.2.2.2.2.2.2.2.1 g.2.2.2.2.2.2.2.2.1) f
  unfold zat
  rw [if_neg (by decide), e1, arrV_store, zI_cl hi3]
  congr 2
  funext b
  unfold updV
  by_cases hb : b = i.toNat
  · subst hb
    rw [if_pos rfl]
    show _ = zav E 25 (z_up h.2.1 c' i.toNat x c' i.toNat) _
    rw [z_up_eq]
    show _ = zrf E x
    rw [zrf_ne hx0]
  · rw [if_neg hb]
    show _ = zav E 25 (z_up h.2.1 c' i.toNat x c' b) _
    rw [z_up_nj hb]
theorem k_alen {M : zM} {pc : Nat} {L : List (Nat × zV)} {st : List zV} {h : zH} {r : Option zV × zH} {c' k : Nat} {ty : FieldType} {x : Int} (hk : 20 ≤ k ∧ k < 26) (hd : decode M.2.1 pc = .ok (.arraylength, 1)) (e : z_len h k c' = some x) (hx : x < 2147483648) (k0 : zK M (pc + 1) L ((0, x) :: st) h r) : zK M pc L ((2, (c' : Int)) :: st) h r := by
  obtain ⟨n, hc, rfl⟩ := z_len_of e
  refine ⟨k0.1, fun E p l e R s m args below meth c H locs cells slots n0 s0 Q ls g f => ?_⟩
  have hc0 := g.rp.c0 hc (by omega)
  have ha := g.rp.arr hc (by omega) (by omega)
  rw [List.map_cons, zvR, zrf_ne hc0]
  have hx3 : zi32 (n : Int) := by unfold zi32; omega
  have hsz : (arrV (E.2.1 (k - 20)) n fun j => zav E k (h.2.1 c' j) (h.2.2 c' j)).slots.size.toInt32 = Int32.ofInt (n : Int) := by
    rw [arrV_size]
    rfl
  have hq := zgo (st' := (0, (n : Int)) :: st) k0 g f (g.cnS.tail.cons hx3) rfl
  have key : ∀ (ty : FieldType), s.isArrayOf (arrV (E.2.1 (k - 20)) n fun j => zav E k (h.2.1 c' j) (h.2.2 c' j)) ty → W p l e R s m args below meth c H locs cells slots Q (F0 m pc ls (.ref (E.2.2.1 + c') :: st.map (zcv E))) := fun ty hty => W.alen g.hx g.hb ha hty hsz rfl rfl hd hq
  have hlt : k - 20 < (zTys E).length := by show k - 20 < 6; omega
  obtain ⟨q, hq⟩ : ∃ q, (zTys E)[k - 20]? = some q := ⟨_, List.getElem?_eq_getElem hlt⟩
  have hq1 : q.1 = E.2.1 (k - 20) := by
    have hk2 : k - 20 = 0 ∨ k - 20 = 1 ∨ k - 20 = 2 ∨ k - 20 = 3 ∨ k - 20 = 4 ∨ k - 20 = 5 := by omega
    rcases hk2 with h2 | h2 | h2 | h2 | h2 | h2 <;> (rw [h2] at hq ⊢; cases hq; rfl)
  have h8 := (g.hK.2 (k - 20) q hq).1 n (fun j => zav E k (h.2.1 c' j) (h.2.2 c' j))
  rw [hq1] at h8
  exact key _ h8
theorem k_sld {M : zM} {pc : Nat} {L : List (Nat × zV)} {st : List zV} {h : zH} {r : Option zV × zH} {i x : Int} (hd : decode M.2.1 pc = .ok (.iaload, 1)) (e : z_aI h 99 0 i = some x) (k0 : zK M (pc + 1) L ((0, x) :: st) h r) : zK M pc L ((0, i) :: (3, 0) :: st) h r := by
  obtain ⟨n, hc, hi, rfl⟩ := z_aI_of e
  refine ⟨k0.1, fun E p l e R s m args below meth c H locs cells slots n0 s0 Q ls g f => ?_⟩
  have hi3 : zi32 i := g.cnS.head
  have hn : n = E.2.2.2.2.2.1 := by
    have := hc.symm.trans g.rp.2.1
    simp at this
    exact this
  subst hn
  obtain ⟨-, -, -, h4, h5, h6, h7⟩ := g.hst
  have hx := h7 i.toNat (by omega)
  rw [g.rp.2.2.2.2.2.2 i.toNat (by omega)] at hx
  exact W.iald (v := .int (Int32.ofInt (h.2.2 0 i.toNat))) g.hx g.hb g.rp.2.2.2.2.1 h4 h5 (by rw [h6]; exact zin hi3 hi) (by rw [zI_cl hi3]; exact hx) rfl rfl hd (zgo k0 g f (g.cnS.tail.tail.cons (by have := g.rp.2.2.2.1 _ _ _ i.toNat hc; exact this)) rfl)
theorem k_slen {M : zM} {pc : Nat} {L : List (Nat × zV)} {st : List zV} {h : zH} {r : Option zV × zH} {x : Int} (hd : decode M.2.1 pc = .ok (.arraylength, 1)) (e : z_len h 99 0 = some x) (hx : x < 2147483648) (k0 : zK M (pc + 1) L ((0, x) :: st) h r) : zK M pc L ((3, 0) :: st) h r := by
  obtain ⟨n, hc, rfl⟩ := z_len_of e
  refine ⟨k0.1, fun E p l e R s m args below meth c H locs cells slots n0 s0 Q ls g f => ?_⟩
  have hn : n = E.2.2.2.2.2.1 := by
    have := hc.symm.trans g.rp.2.1
    simp at this
    exact this
  subst hn
  obtain ⟨-, -, -, h4, h5, h6, h7⟩ := g.hst
  have hx3 : zi32 ((E.2.2.2.2.2.1 : Nat) : Int) := by unfold zi32; omega
  exact W.alen (n := Int32.ofInt (E.2.2.2.2.2.1 : Nat)) g.hx g.hb g.rp.2.2.2.2.1 h4 (by rw [h6]; rfl) rfl rfl hd (zgo k0 g f (g.cnS.tail.cons hx3) rfl)
theorem k_ret {M : zM} {pc : Nat} {L : List (Nat × zV)} {st : List zV} {h : zH} {r : Option zV × zH} (hd : decode M.2.1 pc = .ok (.return_, 1)) (ht : M.2.2.2.1 = none) : zK M pc L [] h (none, h) :=
  ⟨⟨Nat.le_refl _, Nat.le_refl _⟩, fun E p l e R s m args below meth c H locs cells slots n0 s0 Q ls g f => f pc ls H locs cells slots hd ht (fun v hv => by cases hv) g.rp g.sf g.2.2.2.2.2.2.2.1 g.2.2.2.2.2.2.2.2.1⟩
theorem k_iret {M : zM} {pc : Nat} {L : List (Nat × zV)} {st : List zV} {h : zH} {r : Option zV × zH} {x : Int} (hd : decode M.2.1 pc = .ok (.ireturn, 1)) (ht : M.2.2.2.1 = some .int) : zK M pc L [(0, x)] h (some (0, x), h) :=
  ⟨⟨Nat.le_refl _, Nat.le_refl _⟩, fun E p l e R s m args below meth c H locs cells slots n0 s0 Q ls g f => f pc ls H locs cells slots hd (Or.inl ⟨rfl, ht⟩) (fun v hv => by cases hv; exact g.cnS.head) g.rp g.sf g.2.2.2.2.2.2.2.1 g.2.2.2.2.2.2.2.2.1⟩
theorem k_zret {M : zM} {pc : Nat} {L : List (Nat × zV)} {st : List zV} {h : zH} {r : Option zV × zH} {x : Int} (hd : decode M.2.1 pc = .ok (.ireturn, 1)) (ht : M.2.2.2.1 = some .boolean) (hx : x = 0 ∨ x = 1) : zK M pc L [(0, x)] h (some (0, x), h) :=
  ⟨⟨Nat.le_refl _, Nat.le_refl _⟩, fun E p l e R s m args below meth c H locs cells slots n0 s0 Q ls g f => f pc ls H locs cells slots hd (Or.inr (Or.inl ⟨rfl, ht, hx⟩)) (fun v hv => by cases hv; exact g.cnS.head) g.rp g.sf g.2.2.2.2.2.2.2.1 g.2.2.2.2.2.2.2.2.1⟩
theorem k_aret {M : zM} {pc : Nat} {L : List (Nat × zV)} {st : List zV} {h : zH} {r : Option zV × zH} {x : Nat} {C : String} (hd : decode M.2.1 pc = .ok (.areturn, 1)) (ht : M.2.2.2.1 = some (.object C)) : zK M pc L [(2, (x : Int))] h (some (2, (x : Int)), h) :=
  ⟨⟨Nat.le_refl _, Nat.le_refl _⟩, fun E p l e R s m args below meth c H locs cells slots n0 s0 Q ls g f => f pc ls H locs cells slots hd (Or.inr (Or.inr ⟨rfl, C, ht⟩)) (fun v hv => by cases hv; exact g.cnS.head) g.rp g.sf g.2.2.2.2.2.2.2.1 g.2.2.2.2.2.2.2.2.1⟩
def zargs : Nat → List zV → List (Nat × zV)
  | _, [] => []
  | i, v :: vs => (i, v) :: zargs (if v.1 = 1 then i + 2 else i + 1) vs
theorem zcat2 (E : zE) (v : zV) : ((zcv E v).category = 2) ↔ v.1 = 1 := by
  have := zcat E v
  constructor
  · intro h
    rw [h] at this
    simpa using this.symm
  · intro h
    rw [h] at this
    simpa using this
theorem zargs_map (E : zE) : ∀ (i : Nat) (as : List zV), lv_args i (as.map (zcv E)) = (zargs i as).map fun q => (q.1, zcv E q.2)
  | i, [] => rfl
  | i, v :: vs => by
    show (i, zcv E v) :: lv_args (if (zcv E v).category = 2 then i + 2 else i + 1) (vs.map (zcv E)) = (i, zcv E v) :: (zargs (if v.1 = 1 then i + 2 else i + 1) vs).map _
    congr 1
    rw [zargs_map E]
    simp only [zcat2]
theorem zargs_cn : ∀ (i : Nat) (as : List zV), zcnS as → zcnL (zargs i as)
  | i, [], _ => fun q h => by cases h
  | i, v :: vs, ha => fun q h => by
    rcases List.mem_cons.mp h with rfl | h
    · exact ha.head
    · exact zargs_cn _ vs ha.tail q h
def zwd (as : List zV) : Nat := (as.map fun v => if v.1 = 1 then 2 else 1).sum
theorem zlen_sl (E : zE) : ∀ as : List zV, (lg_sl (as.map (zcv E))).length = zwd as
  | [] => rfl
  | v :: vs => by
    show ((if (zcv E v).category = 2 then _ else _) ++ lg_sl (vs.map (zcv E))).length = (if v.1 = 1 then 2 else 1) + zwd vs
    rw [List.length_append, zlen_sl E vs]
    congr 1
    by_cases h : v.1 = 1
    · rw [if_pos h, if_pos ((zcat2 E v).mpr h)]
      rfl
    · rw [if_neg h, if_neg (fun q => h ((zcat2 E v).mp q))]
      rfl
theorem zMt.of {M : zM} {as : List zV} {h : zH} {r : Option zV × zH} (hpl : plainName M.1.cls = true) (hwd : zwd as ≤ M.2.2.1) (k : zK M 0 (zargs 0 as) [] h r) : zMt M as h r := by
  refine ⟨k.1, fun hcn E l => ?_⟩
  refine Met.ofW (cc := M.2.1) (maxL := M.2.2.1) (ret := M.2.2.2.1) hpl rfl ?_
  intro p e s m args below meth c s₁ B hml hv
  obtain ⟨rfl, hR, hS⟩ := hv
  have hts := atoms_spec (ws := zws M) B.pre
  have hl := lv_entry (as.map (zcv E)) (n := M.2.2.1) (by rw [zlen_sl]; exact hwd)
  rw [lg_entry_eq]
  generalize (lg_sl (as.map (zcv E)) ++ List.replicate (M.2.2.1 - (lg_sl (as.map (zcv E))).length) Slot.unset).toArray = ls at hl ⊢
  rw [zargs_map] at hl
  have hnm : meth.name = M.1.name := (name_of_methodNamed B.named B.method).1
  refine k.2 E p l e _ s m _ below meth c s.heap [] 0 0 h.1.length (zsl h) _ ls ⟨⟨B.exec, B.bytes, B.returns, hml, findClass_of_methodNamed B.named, fun w hw => hts w (List.mem_cons_of_mem _ hw), hS, B.notSynchronized, hnm⟩, ⟨Nat.le_refl _, Nat.le_refl _⟩, hl, zargs_cn 0 as hcn, (fun v hv => by cases hv), hR, ⟨fun q _ => rfl, (fun l hl => by cases hl), Nat.le_refl _⟩, Nat.zero_add _, Nat.zero_add _, ?_, ?_⟩ ?_
  · show r.2.1.length ≤ r.2.1.length - h.1.length + h.1.length
    have := k.1.1
    omega
  · show zsl r.2 ≤ zsl r.2 - zsl h + zsl h
    have := k.1.2
    omega
  intro pc ls' H' locs' cells' slots' hd hrt hcnr hR' hS' e1 e2
  have e3 : cells' = r.2.1.length - h.1.length := by omega
  have e4 : slots' = zsl r.2 - zsl h := by omega
  subst e3
  subst e4
  have hlocks := B.notSynchronized
  have hret := B.returns
  have hq : ∀ t : State, t.heap = H' → s.WarmedH t.vm → zQc E r (as.map (zcv E)).toArray s (.returned (r.1.map (zcv E))) t := fun t ht hW => ⟨rfl, hcnr, by rw [ht]; exact hR', fun q hq => by rw [ht]; exact hS'.1 q hq, by rw [ht]; exact hS'.2.2⟩
  obtain ⟨o, h'⟩ := r
  cases o with
  | none => exact W.vret B.exec B.bytes (hret.trans hrt) hq hS'.2.1 hd
  | some v =>
    obtain ⟨t, x⟩ := v
    rcases hrt with ⟨rfl, hty⟩ | ⟨rfl, hty, hx⟩ | ⟨rfl, C, hty⟩
    · exact W.iret B.exec B.bytes (hret.trans hty) hq hS'.2.1 hd
    · exact W.zret (ty := .boolean) B.exec B.bytes (hret.trans hty) (by rcases hx with h | h <;> (cases h; rfl)) hq hS'.2.1 hd
    · refine W.aret (rt := .object C) (v := zcv E (2, x)) B.exec B.bytes (hret.trans hty) (Or.inl ⟨C, rfl⟩) ?_ hq hS'.2.1 hd
      show zrf E x.toNat = .null ∨ ∃ a, zrf E x.toNat = .ref a
      unfold zrf
      split
      · exact Or.inl rfl
      · exact Or.inr ⟨_, rfl⟩
/-- what a call needs of the tables; kind 0: a virtual one of an object of the class number kc, 1: static, 2: a constructor -/
def zCw (M M' : zM) (i kind kc n : Nat) : Prop :=
  (Cond.methodLink M.1.cls i M'.1 ∈ zGW ∨ ∃ host, Cond.methodLinkNest M.1.cls i M'.1 host ∈ zNW) ∧ Cond.code M'.1 M'.2.1 M'.2.2.1 M'.2.2.2.1 ∈ zGW ∧ Cond.initialized M'.1.cls ∈ zGW ∧ (M'.1.cls ≠ "java/lang/invoke/MethodHandle" ∧ M'.1.cls ≠ "java/lang/invoke/VarHandle" ∧ (parseMethodDescriptor M'.1.desc).map (fun d => d.parameters.length) = some n) ∧
  (M'.2.2.2.2.1 + 1 ≤ M.2.2.2.2.1 ∧ 8 + (M'.2.2.1 + 11) + M'.2.2.2.2.2 ≤ M.2.2.2.2.2) ∧
  (kind = 0 → Cond.instanceMethod M'.1 ∈ zGW ∧ Cond.selects M'.1.cls M'.1 M'.1 ∈ zGW ∧ kc < 20 ∧ ∃ T N, classes[kc]? = some (M'.1.cls, T, N)) ∧ (kind = 1 → Cond.static M'.1 ∈ zGW) ∧ (kind = 2 → M'.1.name = "<init>" ∧ M'.2.2.2.1 = none ∧ Cond.instanceMethod M'.1 ∈ zGW)
theorem zblind (E : zE) (as : List zV) (h : zH) : FrameBlind (zPc E as h) := fun a U g mk q => ⟨q.1, q.2.1, by
  obtain ⟨-, -, h1, h2, ⟨h3, h4⟩, h5⟩ := q
  exact ⟨va_K.moved (u := U) (U := U.calling g mk a) (Vm.Alike.refl U.vm) h1, fun w hw => va_Nw.same (by have := zNW_nest w hw; cases w <;> first | rfl | cases this) rfl (h2 w hw), ⟨h3.moved (Vm.Alike.refl U.vm), h4.moved (Vm.Alike.refl U.vm)⟩, State.isArrayOf_alike (Vm.Alike.refl U.vm) h5.1, h5.2⟩⟩
theorem zcatS (E : zE) (rest : List zV) (h : zwd rest ≤ 8) : ((rest.map (zcv E)).map fun v => v.category).sum ≤ 8 := by
  have : ((rest.map (zcv E)).map fun v => v.category) = rest.map fun v => if v.1 = 1 then 2 else 1 := by
    rw [List.map_map]
    apply List.map_congr_left
    intro v _
    show (zcv E v).category = _
    by_cases hv : v.1 = 1
    · rw [if_pos hv]
      exact (zcat2 E v).mpr hv
    · rw [if_neg hv]
      rcases lv_cat (zcv E v) with h1 | h1
      · exact h1
      · exact absurd ((zcat2 E v).mp h1) hv
  rw [this]
  exact h
/-- behind a call -/
theorem zbk {M : zM} {E : zE} {p : Program} {l : Launch} {e : Env} {R : Room} {s : State} {m : MethodId} {args : Array Value} {below : List Frame} {meth : Method} {c : Code} {L : List (Nat × zV)} {st rest : List zV} {h : zH} {H : Heap} {locs : List Loc} {cells slots n0 s0 : Nat} {Q : State → Prop} {ls : Array Slot} {r r1 : Option zV × zH} {pc : Nat} {stv : List Value} {a : Array Value}
    (k : zK M (pc + 3) L (r1.1.toList ++ rest) r1.2 r) (g : zG M E p R s m args meth c L st h H locs cells slots n0 s0 ls r) (f : zF M E p l e R s m args below meth c n0 s0 Q r) (hm : h.1.length ≤ r1.2.1.length ∧ zsl h ≤ zsl r1.2) (hrest : zcnS rest)
    (hr : va_Run p l e R s m args below meth c H locs cells slots (r1.2.1.length - h.1.length) (zsl r1.2 - zsl h) (F0 m pc ls stv) (rest.map (zcv E)) (zQc E r1 a) (fun q => E.2.2.1 < q)) : W p l e R s m args below meth c H locs cells slots Q (F0 m pc ls stv) := by
  intro T hT X
  obtain ⟨v, st₀, t, T', L', h0, X', hL, e1, e2, ⟨hv, hcn, hRp, hlow, hsz⟩, st2⟩ := hr T hT X
  obtain ⟨b1, b2, b3, b4⟩ := g.2.2.2.2.2.2.2
  have hv : v = r1.1.map (zcv E) := Outcome.returned.inj hv
  subst hv
  have hcs : zcnS (r1.1.toList ++ rest) := by
    intro w hw
    rcases List.mem_append.mp hw with hw | hw
    · exact hcn w (by simpa using hw)
    · exact hrest w hw
  have g2 := g.hp (h' := r1.2) (H' := T'.heap) (locs' := locs ++ L') (cells' := cells + (r1.2.1.length - h.1.length)) (slots' := slots + (zsl r1.2 - zsl h)) hcs (by rw [e1]; exact hRp)
    ⟨fun q hq => by rw [e1, hlow q hq, h0]; exact g.sf.1 q hq, fun x hx => by
      rcases List.mem_append.mp hx with hx | hx
      · exact g.sf.2.1 x hx
      · exact hL x hx, by rw [e1]; exact Nat.le_trans g.sf.2.2 (by rw [← h0]; exact hsz)⟩ (by omega) (by omega)
  obtain ⟨t2, a1, a2⟩ := k.2 E p l e R s m args below meth c T'.heap _ _ _ n0 s0 Q ls g2 f T' rfl X'
  refine ⟨t2, st2 t2 ?_, a2⟩
  have e9 : (r1.1.toList ++ rest).map (zcv E) = (r1.1.map (zcv E)).toList ++ rest.map (zcv E) := by
    rw [List.map_append]
    congr 1
    cases r1.1 <;> rfl
  rw [e9] at a1
  exact a1
theorem k_callV {M M' : zM} {pc : Nat} {L : List (Nat × zV)} {rest as : List zV} {h : zH} {r r1 : Option zV × zH} {i kc n c' n2 : Nat} (hd : decode M.2.1 pc = .ok (.invokevirtual i, 3)) (hw : zCw M M' i 0 kc n) (hn : as.length = n) (hr8 : zwd rest ≤ 8) (hc : h.1[c']? = some (kc, n2)) (hM : zMt M' ((2, (c' : Int)) :: as) h r1) (k : zK M (pc + 3) L (r1.1.toList ++ rest) r1.2 r) : zK M pc L (as.reverse ++ (2, (c' : Int)) :: rest) h r := by
  obtain ⟨hlink, hcode, hini, hd3, hroom, hk0, hk1, hk2⟩ := hw
  have k1 := k.1
  refine ⟨⟨Nat.le_trans hM.1.1 k1.1, Nat.le_trans hM.1.2 k1.2⟩, fun E p l e R s m args below meth c H locs cells slots n0 s0 Q ls g f => ?_⟩
  obtain ⟨b1, b2, b3, b4⟩ := g.2.2.2.2.2.2.2
  have hro := hM.1
  have hfr : M'.2.2.2.2.1 + 1 ≤ R.frames ∧ 8 + (M'.2.2.1 + 11) + M'.2.2.2.2.2 ≤ R.locals := ⟨Nat.le_trans hroom.1 g.2.1.1, Nat.le_trans hroom.2 g.2.1.2⟩
  have hf : cells + (r1.2.1.length - h.1.length) ≤ R.cells ∧ slots + (zsl r1.2 - zsl h) ≤ R.slots := by omega
  have hS : CallFix p m c M.2.1 M.2.2.1 s args zGW M.1.cls := ⟨g.hx, g.hb, g.hml, g.own, g.hts⟩
  obtain ⟨hins, hsel, hkc, T, N, hcl⟩ := hk0 rfl
  have hc0 := g.rp.c0 hc (by omega)
  have hcnr : zcnS ((2, (c' : Int)) :: rest) := fun w hw => g.cnS w (List.mem_append_right _ hw)
  have hcna : zcnS ((2, (c' : Int)) :: as) := by
    intro w hw
    rcases List.mem_cons.mp hw with rfl | hw
    · exact hcnr.head
    · exact g.cnS w (List.mem_append_left _ (List.mem_reverse.mpr hw))
  have hMet := hM.2 hcna E l
  have hstk : (as.reverse ++ (2, (c' : Int)) :: rest).map (zcv E) = (as.map (zcv E)).reverse ++ .ref (E.2.2.1 + c') :: rest.map (zcv E) := by
    rw [List.map_append, List.map_cons, zvR, zrf_ne hc0, List.map_reverse]
  rw [hstk]
  have hav : ((2, (c' : Int)) :: as).map (zcv E) = .ref (E.2.2.1 + c') :: as.map (zcv E) := by rw [List.map_cons, zvR, zrf_ne hc0]
  have hp : PreV s H M'.1.cls (E.2.2.1 + c') (zPc E ((2, (c' : Int)) :: as) h) (as.map (zcv E)) := ⟨zblind _ _ _, va_recv g.hK (g.rp.ob hc hkc hcl) hcl rfl, fun U hU hW => ⟨by rw [hav], by rw [hU]; exact g.rp, g.hst.moved hW⟩⟩
  refine zbk k g f hM.1 hcnr.tail ?_
  rcases hlink with hlink | ⟨host, hlink⟩
  · exact va_runV hS hMet ⟨callB_of n g.hts (zGood hcode) rfl rfl rfl (g.hts _ hini) (g.hts _ hlink) hd3 hfr, g.hts _ hins, g.hts _ hsel⟩ hp rfl (by rw [List.length_map]; exact hn) g.lv.1 rfl (lv_room (zcatS E rest hr8)) hd hf
  · exact va_runVN hS hMet ⟨va_cnB n g.hts (zGood hcode) rfl rfl rfl (g.hst.2.1 _ hlink) (g.hts _ hini) hd3 hfr, g.hts _ hins, g.hts _ hsel⟩ hp rfl (by rw [List.length_map]; exact hn) g.lv.1 rfl (lv_room (zcatS E rest hr8)) hd hf
theorem k_callS {M M' : zM} {pc : Nat} {L : List (Nat × zV)} {rest as : List zV} {h : zH} {r r1 : Option zV × zH} {i n : Nat} (hd : decode M.2.1 pc = .ok (.invokestatic i, 3)) (hw : zCw M M' i 1 0 n) (hn : as.length = n) (hr8 : zwd rest ≤ 8) (hM : zMt M' as h r1) (k : zK M (pc + 3) L (r1.1.toList ++ rest) r1.2 r) : zK M pc L (as.reverse ++ rest) h r := by
  obtain ⟨hlink, hcode, hini, hd3, hroom, hk0, hk1, hk2⟩ := hw
  have k1 := k.1
  refine ⟨⟨Nat.le_trans hM.1.1 k1.1, Nat.le_trans hM.1.2 k1.2⟩, fun E p l e R s m args below meth c H locs cells slots n0 s0 Q ls g f => ?_⟩
  obtain ⟨b1, b2, b3, b4⟩ := g.2.2.2.2.2.2.2
  have hro := hM.1
  have hfr : M'.2.2.2.2.1 + 1 ≤ R.frames ∧ 8 + (M'.2.2.1 + 11) + M'.2.2.2.2.2 ≤ R.locals := ⟨Nat.le_trans hroom.1 g.2.1.1, Nat.le_trans hroom.2 g.2.1.2⟩
  have hf : cells + (r1.2.1.length - h.1.length) ≤ R.cells ∧ slots + (zsl r1.2 - zsl h) ≤ R.slots := by omega
  have hS : CallFix p m c M.2.1 M.2.2.1 s args zGW M.1.cls := ⟨g.hx, g.hb, g.hml, g.own, g.hts⟩
  have hstat := hk1 rfl
  have hcna : zcnS as := fun w hw => g.cnS w (List.mem_append_left _ (List.mem_reverse.mpr hw))
  have hMet := hM.2 hcna E l
  have hstk : (as.reverse ++ rest).map (zcv E) = (as.map (zcv E)).reverse ++ rest.map (zcv E) := by rw [List.map_append, List.map_reverse]
  rw [hstk]
  have hp : PreS s H (zPc E as h) (as.map (zcv E)) := ⟨zblind _ _ _, fun U hU hW => ⟨rfl, by rw [hU]; exact g.rp, g.hst.moved hW⟩⟩
  refine zbk k g f hM.1 (fun w hw => g.cnS w (List.mem_append_right _ hw)) ?_
  rcases hlink with hlink | ⟨host, hlink⟩
  · exact va_runS hS hMet ⟨callB_of n g.hts (zGood hcode) rfl rfl rfl (g.hts _ hini) (g.hts _ hlink) hd3 hfr, g.hts _ hstat⟩ hp rfl (by rw [List.length_map]; exact hn) g.lv.1 rfl (lv_room (zcatS E rest hr8)) hd hf
  · exact va_runSN hS hMet ⟨va_cnB n g.hts (zGood hcode) rfl rfl rfl (g.hst.2.1 _ hlink) (g.hts _ hini) hd3 hfr, g.hts _ hstat, trivial⟩ hp rfl (by rw [List.length_map]; exact hn) g.lv.1 rfl (lv_room (zcatS E rest hr8)) hd hf
theorem k_callI {M M' : zM} {pc : Nat} {L : List (Nat × zV)} {rest as : List zV} {h : zH} {r r1 : Option zV × zH} {i n c' : Nat} (hd : decode M.2.1 pc = .ok (.invokespecial i, 3)) (hw : zCw M M' i 2 0 n) (hn : as.length = n) (hr8 : zwd rest ≤ 8) (hM : zMt M' ((2, (c' : Int)) :: as) h r1) (k : zK M (pc + 3) L (r1.1.toList ++ rest) r1.2 r) : zK M pc L (as.reverse ++ (2, (c' : Int)) :: rest) h r := by
  obtain ⟨hlink, hcode, hini, hd3, hroom, hk0, hk1, hk2⟩ := hw
  have k1 := k.1
  refine ⟨⟨Nat.le_trans hM.1.1 k1.1, Nat.le_trans hM.1.2 k1.2⟩, fun E p l e R s m args below meth c H locs cells slots n0 s0 Q ls g f => ?_⟩
  obtain ⟨b1, b2, b3, b4⟩ := g.2.2.2.2.2.2.2
  have hro := hM.1
  have hfr : M'.2.2.2.2.1 + 1 ≤ R.frames ∧ 8 + (M'.2.2.1 + 11) + M'.2.2.2.2.2 ≤ R.locals := ⟨Nat.le_trans hroom.1 g.2.1.1, Nat.le_trans hroom.2 g.2.1.2⟩
  have hf : cells + (r1.2.1.length - h.1.length) ≤ R.cells ∧ slots + (zsl r1.2 - zsl h) ≤ R.slots := by omega
  have hS : CallFix p m c M.2.1 M.2.2.1 s args zGW M.1.cls := ⟨g.hx, g.hb, g.hml, g.own, g.hts⟩
  obtain ⟨hnm, hret, hins⟩ := hk2 rfl
  have hcnr : zcnS ((2, (c' : Int)) :: rest) := fun w hw => g.cnS w (List.mem_append_right _ hw)
  have hc0 := zcn_ne hcnr.head
  have hcna : zcnS ((2, (c' : Int)) :: as) := by
    intro w hw
    rcases List.mem_cons.mp hw with rfl | hw
    · exact hcnr.head
    · exact g.cnS w (List.mem_append_left _ (List.mem_reverse.mpr hw))
  have hMet := hM.2 hcna E l
  have hstk : (as.reverse ++ (2, (c' : Int)) :: rest).map (zcv E) = (as.map (zcv E)).reverse ++ .ref (E.2.2.1 + c') :: rest.map (zcv E) := by
    rw [List.map_append, List.map_cons, zvR, zrf_ne hc0, List.map_reverse]
  rw [hstk]
  have hav : ((2, (c' : Int)) :: as).map (zcv E) = .ref (E.2.2.1 + c') :: as.map (zcv E) := by rw [List.map_cons, zvR, zrf_ne hc0]
  have hp : PreS s H (zPc E ((2, (c' : Int)) :: as) h) (.ref (E.2.2.1 + c') :: as.map (zcv E)) := ⟨zblind _ _ _, fun U hU hW => ⟨by rw [hav], by rw [hU]; exact g.rp, g.hst.moved hW⟩⟩
  have hG := zGood hcode
  have hw2 : zws M' = Cond.code M'.1 M'.2.1 M'.2.2.1 none :: zGW := by unfold zws; rw [hret]
  refine zbk k g f hM.1 hcnr.tail ?_
  rcases hlink with hlink | ⟨host, hlink⟩
  · exact va_runI hS hMet ⟨callB_of n g.hts hG hw2 rfl rfl (g.hts _ hini) (g.hts _ hlink) hd3 hfr, hnm, g.hts _ hins⟩ hp rfl (by rw [List.length_map]; exact hn) g.lv.1 rfl (lv_room (zcatS E rest hr8)) hd hf
  · exact va_runIN hS hMet ⟨va_cnB n g.hts hG hw2 rfl rfl (g.hst.2.1 _ hlink) (g.hts _ hini) hd3 hfr, hnm, g.hts _ hins⟩ hp rfl (by rw [List.length_map]; exact hn) g.lv.1 rfl (lv_room (zcatS E rest hr8)) hd hf
theorem k_obj {M : zM} {pc : Nat} {L : List (Nat × zV)} {st : List zV} {h : zH} {r : Option zV × zH} {i c' : Nat} (hd : decode M.2.1 pc = .ok (.invokespecial i, 3)) (h1 : Cond.methodLink M.1.cls i objectInit ∈ zGW) (h2 : Cond.instanceMethod objectInit ∈ zGW) (h3 : Cond.code objectInit ⟨#[0xb1]⟩ 1 none ∈ zGW) (hfr : 1 ≤ M.2.2.2.2.1 ∧ 20 ≤ M.2.2.2.2.2) (hr8 : zwd st ≤ 8) (k0 : zK M (pc + 3) L st h r) : zK M pc L ((2, (c' : Int)) :: st) h r := by
  refine ⟨k0.1, fun E p l e R s m args below meth c H locs cells slots n0 s0 Q ls g f => ?_⟩
  have hc := zcn_ne g.cnS.head
  rw [List.map_cons, zvR, zrf_ne hc]
  have h8 := lv_room (m := m) (pc := pc) (ls := ls) (rest := .ref (E.2.2.1 + c') :: st.map (zcv E)) (zcatS E st hr8)
  exact W.objInit g.hx g.hb g.own (g.hts _ h1) (g.hts _ h2) (g.hts _ h3) rfl (by rw [g.hml]; exact g.lv.1) rfl hd (Nat.le_trans hfr.1 g.2.1.1) (by have := Nat.le_trans hfr.2 g.2.1.2; omega) (zgo k0 g f g.cnS.tail rfl)
theorem k_max {M : zM} {pc : Nat} {L : List (Nat × zV)} {st : List zV} {h : zH} {r : Option zV × zH} {i : Nat} {x y : Int} (hd : decode M.2.1 pc = .ok (.invokestatic i, 3)) (h1 : Cond.methodLink M.1.cls i Lib.Math.max.name ∈ zGW) (h2 : Cond.static Lib.Math.max.name ∈ zGW) (h3 : Cond.initialized "java/lang/Math" ∈ zGW) (h4 : Cond.code Lib.Math.max.name Lib.Math.max.code 2 (some .int) ∈ zGW) (hfr : 1 ≤ M.2.2.2.2.1 ∧ 21 ≤ M.2.2.2.2.2) (hr8 : zwd st ≤ 8) (k0 : zK M (pc + 3) L ((0, z_max x y) :: st) h r) : zK M pc L ((0, y) :: (0, x) :: st) h r := by
  refine ⟨k0.1, fun E p l e R s m args below meth c H locs cells slots n0 s0 Q ls g f => ?_⟩
  obtain ⟨b1, b2, b3, b4⟩ := g.2.2.2.2.2.2.2
  have k1 := k0.1
  have h8 := zcatS E st hr8
  have hl := Nat.le_trans hfr.2 g.2.1.2
  refine va_mmax (x := Int32.ofInt x) (y := Int32.ofInt y) g.hx g.hb (g.hml.trans g.lv.1.symm) g.own (g.hts _ h1) (g.hts _ h2) (g.hts _ h3) (g.hts _ h4) (Nat.le_trans hfr.1 g.2.1.1) (by omega) (by omega) (by omega) hd (zgo k0 g f (g.cnS.tail.tail.cons ?_) ?_)
  · unfold z_max
    split
    · exact g.cnS.head
    · exact g.cnS.tail.head
  · rw [List.map_cons, zvI]
    congr 2
    unfold z_max
    by_cases hxy : x < y
    · rw [if_pos hxy, if_pos ((zI_lt g.cnS.tail.head g.cnS.head).mpr hxy)]
    · rw [if_neg hxy, if_neg (fun q => hxy ((zI_lt g.cnS.tail.head g.cnS.head).mp q))]
theorem k_min {M : zM} {pc : Nat} {L : List (Nat × zV)} {st : List zV} {h : zH} {r : Option zV × zH} {i : Nat} {x y : Int} (hd : decode M.2.1 pc = .ok (.invokestatic i, 3)) (h1 : Cond.methodLink M.1.cls i Lib.Math.min.name ∈ zGW) (h2 : Cond.static Lib.Math.min.name ∈ zGW) (h3 : Cond.initialized "java/lang/Math" ∈ zGW) (h4 : Cond.code Lib.Math.min.name Lib.Math.min.code 2 (some .int) ∈ zGW) (hfr : 1 ≤ M.2.2.2.2.1 ∧ 21 ≤ M.2.2.2.2.2) (hr8 : zwd st ≤ 8) (k0 : zK M (pc + 3) L ((0, z_min x y) :: st) h r) : zK M pc L ((0, y) :: (0, x) :: st) h r := by
  refine ⟨k0.1, fun E p l e R s m args below meth c H locs cells slots n0 s0 Q ls g f => ?_⟩
  obtain ⟨b1, b2, b3, b4⟩ := g.2.2.2.2.2.2.2
  have k1 := k0.1
  have h8 := zcatS E st hr8
  have hl := Nat.le_trans hfr.2 g.2.1.2
  refine va_mmin (x := Int32.ofInt x) (y := Int32.ofInt y) g.hx g.hb (g.hml.trans g.lv.1.symm) g.own (g.hts _ h1) (g.hts _ h2) (g.hts _ h3) (g.hts _ h4) (Nat.le_trans hfr.1 g.2.1.1) (by omega) (by omega) (by omega) hd (zgo k0 g f (g.cnS.tail.tail.cons ?_) ?_)
  · unfold z_min
    split
    · exact g.cnS.head
    · exact g.cnS.tail.head
  · rw [List.map_cons, zvI]
    congr 2
    unfold z_min
    by_cases hxy : y < x
    · rw [if_pos hxy, if_pos ((zI_lt g.cnS.head g.cnS.tail.head).mpr hxy)]
    · rw [if_neg hxy, if_neg (fun q => hxy ((zI_lt g.cnS.head g.cnS.tail.head).mp q))]
theorem k_tabO {M : zM} {pc : Nat} {L : List (Nat × zV)} {st : List zV} {h : zH} {r : Option zV × zH} {x dflt lo hi : Int} {offs : Array Int} {len tgt : Nat} (hd : decode M.2.1 pc = .ok (.tableswitch dflt lo hi offs, len)) (hx : x < lo ∨ hi < x) (ht : (pc : Int) + dflt = (tgt : Int)) (k : zK M tgt L st h r) : zK M pc L ((0, x) :: st) h r :=
  ⟨k.1, fun E p l e R s m args below meth c H locs cells slots n0 s0 Q ls g f => lv_tableOut (x := Int32.ofInt x) g.hx g.hb hd (by rw [zI_to g.cnS.head]; exact hx) ht (zgo k g f g.cnS.tail rfl)⟩
theorem k_tabI {M : zM} {pc : Nat} {L : List (Nat × zV)} {st : List zV} {h : zH} {r : Option zV × zH} {x dflt lo hi off : Int} {offs : Array Int} {len tgt : Nat} (hd : decode M.2.1 pc = .ok (.tableswitch dflt lo hi offs, len)) (h1 : ¬ x < lo) (h2 : ¬ hi < x) (ho : offs[(x - lo).toNat]? = some off) (ht : (pc : Int) + off = (tgt : Int)) (k : zK M tgt L st h r) : zK M pc L ((0, x) :: st) h r :=
  ⟨k.1, fun E p l e R s m args below meth c H locs cells slots n0 s0 Q ls g f => lv_tableIn (x := Int32.ofInt x) g.hx g.hb hd (by rw [zI_to g.cnS.head]; exact h1) (by rw [zI_to g.cnS.head]; exact h2) (by rw [zI_to g.cnS.head]; exact ho) ht (zgo k g f g.cnS.tail rfl)⟩
theorem k_look {M : zM} {pc : Nat} {L : List (Nat × zV)} {st : List zV} {h : zH} {r : Option zV × zH} {x dflt off : Int} {ps : Array (Int × Int)} {len tgt : Nat} (hd : decode M.2.1 pc = .ok (.lookupswitch dflt ps, len)) (hp : (ps.toList.zip (ps.toList.drop 1)).all (fun (a, next) => a.1 < next.1) = true) (ho : Op.lookupswitch.offset ps.toList dflt x = off) (ht : (pc : Int) + off = (tgt : Int)) (k : zK M tgt L st h r) : zK M pc L ((0, x) :: st) h r :=
  ⟨k.1, fun E p l e R s m args below meth c H locs cells slots n0 s0 Q ls g f => lv_lookup (x := Int32.ofInt x) g.hx g.hb hd hp (by rw [zI_to g.cnS.head]; exact ho) ht (zgo k g f g.cnS.tail rfl)⟩
theorem k_lcmp {M : zM} {pc : Nat} {L : List (Nat × zV)} {st : List zV} {h : zH} {r : Option zV × zH} {x y : Int} (hd : decode M.2.1 pc = .ok (.lcmp, 1)) (k : zK M (pc + 1) L ((0, z_lcmp x y) :: st) h r) : zK M pc L ((1, y) :: (1, x) :: st) h r := by
  refine ⟨k.1, fun E p l e R s m args below meth c H locs cells slots n0 s0 Q ls g f => W.lcmp (x := Int64.ofInt x) (y := Int64.ofInt y) g.hx g.hb hd (zgo k g f (g.cnS.tail.tail.cons ?_) ?_)⟩
  · show zi32 _
    unfold z_lcmp zi32
    split
    · omega
    · split <;> omega
  · rw [List.map_cons, zvI]
    congr 2
    have hx : zi64 x := g.cnS.tail.head
    have hy : zi64 y := g.cnS.head
    unfold z_lcmp lg_cmp
    have e1 : (Int64.ofInt x < Int64.ofInt y) ↔ x < y := by rw [Int64.lt_iff_toInt_lt, zL_to hx, zL_to hy]
    have e2 : (Int64.ofInt x = Int64.ofInt y) ↔ x = y := ⟨fun q => by rw [← zL_to hx, ← zL_to hy, q], fun q => by rw [q]⟩
    simp only [e1, e2]
    split
    · rfl
    · split <;> rfl
theorem k_idiv {M : zM} {pc : Nat} {L : List (Nat × zV)} {st : List zV} {h : zH} {r : Option zV × zH} {x y : Int} (hy : ¬ y = 0) (hd : decode M.2.1 pc = .ok (.idiv, 1)) (k : zK M (pc + 1) L ((0, zw (x.tdiv y)) :: st) h r) : zK M pc L ((0, y) :: (0, x) :: st) h r := by
  refine ⟨k.1, fun E p l e R s m args below meth c H locs cells slots n0 s0 Q ls g f => lv_idiv (x := Int32.ofInt x) (y := Int32.ofInt y) g.hx g.hb hd (fun q => hy ((zb0 g.cnS.head).mp q)) (zgo k g f (g.cnS.tail.tail.cons (zi_w _)) ?_)⟩
  rw [List.map_cons, zvI]
  congr 2
  apply Int32.toInt_inj.mp
  rw [Int32.toInt_div, zI_to (zi_w _), zI_to g.cnS.head, zI_to g.cnS.tail.head]
  rfl
theorem k_irem {M : zM} {pc : Nat} {L : List (Nat × zV)} {st : List zV} {h : zH} {r : Option zV × zH} {x y : Int} (hy : ¬ y = 0) (hd : decode M.2.1 pc = .ok (.irem, 1)) (k : zK M (pc + 1) L ((0, zw (x - x.tdiv y * y)) :: st) h r) : zK M pc L ((0, y) :: (0, x) :: st) h r := by
  refine ⟨k.1, fun E p l e R s m args below meth c H locs cells slots n0 s0 Q ls g f => lv_irem (x := Int32.ofInt x) (y := Int32.ofInt y) g.hx g.hb hd (fun q => hy ((zb0 g.cnS.head).mp q)) (zgo k g f (g.cnS.tail.tail.cons (zi_w _)) ?_)⟩
  rw [List.map_cons, zvI]
  congr 2
  rw [zI_w, Int32.ofInt_sub, Int32.ofInt_mul]
  congr 2
  apply Int32.toInt_inj.mp
  rw [Int32.toInt_div, zI_to g.cnS.head, zI_to g.cnS.tail.head, Int32.toInt_ofInt]
  rfl
theorem k_callVv {M M' : zM} {pc : Nat} {L : List (Nat × zV)} {rest as : List zV} {h h1 : zH} {r : Option zV × zH} {i kc n c' n2 : Nat} (hd : decode M.2.1 pc = .ok (.invokevirtual i, 3)) (hw : zCw M M' i 0 kc n) (hn : as.length = n) (hr8 : zwd rest ≤ 8) (hc : h.1[c']? = some (kc, n2)) (hM : zMt M' ((2, (c' : Int)) :: as) h (none, h1)) (k : zK M (pc + 3) L (rest) h1 r) : zK M pc L (as.reverse ++ (2, (c' : Int)) :: rest) h r := k_callV hd hw hn hr8 hc hM k
theorem k_callVi {M M' : zM} {pc : Nat} {L : List (Nat × zV)} {rest as : List zV} {h h1 : zH} {r : Option zV × zH} {x : Int} {i kc n c' n2 : Nat} (hd : decode M.2.1 pc = .ok (.invokevirtual i, 3)) (hw : zCw M M' i 0 kc n) (hn : as.length = n) (hr8 : zwd rest ≤ 8) (hc : h.1[c']? = some (kc, n2)) (hM : zMt M' ((2, (c' : Int)) :: as) h (some (0, x), h1)) (k : zK M (pc + 3) L ((0, x) :: rest) h1 r) : zK M pc L (as.reverse ++ (2, (c' : Int)) :: rest) h r := k_callV hd hw hn hr8 hc hM k
theorem k_callVr {M M' : zM} {pc : Nat} {L : List (Nat × zV)} {rest as : List zV} {h h1 : zH} {r : Option zV × zH} {x : Nat} {i kc n c' n2 : Nat} (hd : decode M.2.1 pc = .ok (.invokevirtual i, 3)) (hw : zCw M M' i 0 kc n) (hn : as.length = n) (hr8 : zwd rest ≤ 8) (hc : h.1[c']? = some (kc, n2)) (hM : zMt M' ((2, (c' : Int)) :: as) h (some (2, (x : Int)), h1)) (k : zK M (pc + 3) L ((2, (x : Int)) :: rest) h1 r) : zK M pc L (as.reverse ++ (2, (c' : Int)) :: rest) h r := k_callV hd hw hn hr8 hc hM k
theorem k_callSv {M M' : zM} {pc : Nat} {L : List (Nat × zV)} {rest as : List zV} {h h1 : zH} {r : Option zV × zH} {i n : Nat} (hd : decode M.2.1 pc = .ok (.invokestatic i, 3)) (hw : zCw M M' i 1 0 n) (hn : as.length = n) (hr8 : zwd rest ≤ 8) (hM : zMt M' as h (none, h1)) (k : zK M (pc + 3) L (rest) h1 r) : zK M pc L (as.reverse ++ rest) h r := k_callS hd hw hn hr8 hM k
theorem k_callSi {M M' : zM} {pc : Nat} {L : List (Nat × zV)} {rest as : List zV} {h h1 : zH} {r : Option zV × zH} {x : Int} {i n : Nat} (hd : decode M.2.1 pc = .ok (.invokestatic i, 3)) (hw : zCw M M' i 1 0 n) (hn : as.length = n) (hr8 : zwd rest ≤ 8) (hM : zMt M' as h (some (0, x), h1)) (k : zK M (pc + 3) L ((0, x) :: rest) h1 r) : zK M pc L (as.reverse ++ rest) h r := k_callS hd hw hn hr8 hM k
theorem k_callSr {M M' : zM} {pc : Nat} {L : List (Nat × zV)} {rest as : List zV} {h h1 : zH} {r : Option zV × zH} {x : Nat} {i n : Nat} (hd : decode M.2.1 pc = .ok (.invokestatic i, 3)) (hw : zCw M M' i 1 0 n) (hn : as.length = n) (hr8 : zwd rest ≤ 8) (hM : zMt M' as h (some (2, (x : Int)), h1)) (k : zK M (pc + 3) L ((2, (x : Int)) :: rest) h1 r) : zK M pc L (as.reverse ++ rest) h r := k_callS hd hw hn hr8 hM k
theorem k_callIv {M M' : zM} {pc : Nat} {L : List (Nat × zV)} {rest as : List zV} {h h1 : zH} {r : Option zV × zH} {i n c' : Nat} (hd : decode M.2.1 pc = .ok (.invokespecial i, 3)) (hw : zCw M M' i 2 0 n) (hn : as.length = n) (hr8 : zwd rest ≤ 8) (hM : zMt M' ((2, (c' : Int)) :: as) h (none, h1)) (k : zK M (pc + 3) L (rest) h1 r) : zK M pc L (as.reverse ++ (2, (c' : Int)) :: rest) h r := k_callI hd hw hn hr8 hM k
theorem k_callIi {M M' : zM} {pc : Nat} {L : List (Nat × zV)} {rest as : List zV} {h h1 : zH} {r : Option zV × zH} {x : Int} {i n c' : Nat} (hd : decode M.2.1 pc = .ok (.invokespecial i, 3)) (hw : zCw M M' i 2 0 n) (hn : as.length = n) (hr8 : zwd rest ≤ 8) (hM : zMt M' ((2, (c' : Int)) :: as) h (some (0, x), h1)) (k : zK M (pc + 3) L ((0, x) :: rest) h1 r) : zK M pc L (as.reverse ++ (2, (c' : Int)) :: rest) h r := k_callI hd hw hn hr8 hM k
theorem k_callIr {M M' : zM} {pc : Nat} {L : List (Nat × zV)} {rest as : List zV} {h h1 : zH} {r : Option zV × zH} {x : Nat} {i n c' : Nat} (hd : decode M.2.1 pc = .ok (.invokespecial i, 3)) (hw : zCw M M' i 2 0 n) (hn : as.length = n) (hr8 : zwd rest ≤ 8) (hM : zMt M' ((2, (c' : Int)) :: as) h (some (2, (x : Int)), h1)) (k : zK M (pc + 3) L ((2, (x : Int)) :: rest) h1 r) : zK M pc L (as.reverse ++ (2, (c' : Int)) :: rest) h r := k_callI hd hw hn hr8 hM k
end
section
/-! System.arraycopy of int[] and char[] -/
theorem z_cp_of {h h' : zH} {k c0 c1 : Nat} {sp dp n : Int} (e : z_cp h k c0 sp c1 dp n = some h') : ∃ n0 n1, h.1[c0]? = some (k, n0) ∧ h.1[c1]? = some (k, n1) ∧ (0 ≤ sp ∧ 0 ≤ dp ∧ 0 ≤ n ∧ sp + n ≤ (n0 : Int) ∧ dp + n ≤ (n1 : Int)) ∧ h' = (h.1, h.2.1, fun a j => if a = c1 ∧ dp.toNat ≤ j ∧ j < dp.toNat + n.toNat then h.2.2 c0 (sp.toNat + (j - dp.toNat)) else h.2.2 a j) := by
  unfold z_cp at e
  split at e
  · rename_i q u hq hu
    split at e
    · rename_i hk
      obtain ⟨a, b⟩ := q
      obtain ⟨a2, b2⟩ := u
      obtain ⟨rfl, rfl, hk2⟩ := hk
      exact ⟨b, b2, hq, hu, hk2, (Option.some.inj e).symm⟩
    · cases e
  · cases e
theorem zfitc {x : Int} (h : 0 ≤ x ∧ x < 65536) : fits .char (.int (Int32.ofInt x)) = true := by
  have h3 : zi32 x := by unfold zi32; omega
  show (decide (0 ≤ Int32.ofInt x) && decide (Int32.ofInt x ≤ 65535)) = true
  have e1 := (zbG0 h3).mpr h.1
  have e2 : Int32.ofInt x ≤ Int32.ofInt 65535 := (zI_le h3 (by unfold zi32; omega)).mpr (by omega)
  have e3 : (Int32.ofInt 65535 : Int32) = 65535 := rfl
  rw [e3] at e2
  simp [e1, e2]
theorem k_copy {M : zM} {pc : Nat} {L : List (Nat × zV)} {st : List zV} {h : zH} {r : Option zV × zH} {i k c0 c1 : Nat} {sp dp n : Int} {h' : zH} {ty : FieldType} (hk : (k = 20 ∧ ty = .int) ∨ (k = 21 ∧ ty = .char)) (hd : decode M.2.1 pc = .ok (.invokestatic i, 3)) (h1 : Cond.methodLink M.1.cls i arraycopyName ∈ zGW) (h2 : Cond.native arraycopyName ∈ zGW) (h3 : Cond.static arraycopyName ∈ zGW) (h4 : Cond.initialized "java/lang/System" ∈ zGW)
    (hfr : 1 ≤ M.2.2.2.2.1 ∧ 26 ≤ M.2.2.2.2.2) (hr8 : zwd st ≤ 8) (e : z_cp h k c0 sp c1 dp n = some h') (k0 : zK M (pc + 3) L st h' r) : zK M pc L ((0, n) :: (0, dp) :: (2, (c1 : Int)) :: (0, sp) :: (2, (c0 : Int)) :: st) h r := by
  obtain ⟨n0', n1, hc0, hc1, ⟨hsp, hdp, hn, hs0, hs1⟩, rfl⟩ := z_cp_of e
  refine ⟨k0.1, fun E p l e R s m args below meth c H locs cells slots n0 s0 Q ls g f => ?_⟩
  have hk20 : ¬ k < 20 := by omega
  have hk99 : k ≠ 99 := by omega
  have hz0 := g.rp.c0 hc0 hk99
  have hz1 := g.rp.c0 hc1 hk99
  have ha0 := g.rp.arr hc0 hk20 hk99
  have ha1 := g.rp.arr hc1 hk20 hk99
  have hk23 : k < 23 := by omega
  have hn3 : zi32 n := g.cnS.head
  have hdp3 : zi32 dp := g.cnS.tail.head
  have hsp3 : zi32 sp := g.cnS.tail.tail.tail.head
  have hav : ∀ (c' j : Nat), zav E k (h.2.1 c' j) (h.2.2 c' j) = .int (Int32.ofInt (h.2.2 c' j)) := fun c' j => if_pos hk23
  simp only [hav] at ha0 ha1
  have hrk : refKind ty = false := by rcases hk with ⟨-, rfl⟩ | ⟨-, rfl⟩ <;> rfl
  have htys : ∀ (nn : Nat) (z : Nat → Value), s.isArrayOf (arrV (E.2.1 (k - 20)) nn z) ty := by
    rcases hk with ⟨rfl, rfl⟩ | ⟨rfl, rfl⟩
    · exact fun nn z => (g.hK.2 0 _ rfl).1 nn z
    · exact fun nn z => (g.hK.2 1 _ rfl).1 nn z
  rw [List.map_cons, List.map_cons, List.map_cons, List.map_cons, List.map_cons, zvR, zvR, zrf_ne hz0, zrf_ne hz1, zvI, zvI, zvI]
  intro T hT X
  obtain ⟨-, kA, hkA, cm, hkk⟩ := htys n0' (fun j => .int (Int32.ofInt (h.2.2 c0 j)))
  have h8 := zcatS E st hr8
  obtain ⟨vm', X', step⟩ := X.arraycopy g.hx g.own (g.hts _ h1) (g.hts _ h2) (g.hts _ h3) (g.hts _ h4) (src := E.2.2.1 + c0) (dst := E.2.2.1 + c1) (cs := arrV (E.2.1 (k - 20)) n0' fun j => .int (Int32.ofInt (h.2.2 c0 j))) (cd := arrV (E.2.1 (k - 20)) n1 fun j => .int (Int32.ofInt (h.2.2 c1 j))) (srcPos := Int32.ofInt sp) (destPos := Int32.ofInt dp) (n := Int32.ofInt n) (by rw [hT]; exact ha0) (by rw [hT]; exact ha1)
    (fun _ h => by cases h) (fun _ h => by cases h) (fun h => by cases h) (fun h => by cases h) hkA hkA hkk hkk (by simp [hrk]) (by rw [zbl0 hsp3]; omega) (by rw [zbl0 hdp3]; omega) (by rw [zbl0 hn3]; omega)
    (by rw [zI_to hsp3, zI_to hn3, arrV_size]; omega)
    (by rw [zI_to hdp3, zI_to hn3, arrV_size]; omega)
    (fun vm₁ _ i hi => by
      rw [zI_cl hn3] at hi
      have e9 : (arrV (E.2.1 (k - 20)) n0' fun j => Value.int (Int32.ofInt (h.2.2 c0 j))).slots.getD ((Int32.ofInt sp).toNatClampNeg + i) .null = .int (Int32.ofInt (h.2.2 c0 (sp.toNat + i))) := by
        rw [Array.getD_eq_getD_getElem?, zI_cl hsp3, arrV_read _ _ (by omega)]
        rfl
      refine ⟨?_, ?_⟩
      · rw [e9]
        have hzk := g.rp.2.2.2.1 _ _ _ (sp.toNat + i) hc0
        rcases hk with ⟨rfl, rfl⟩ | ⟨rfl, rfl⟩
        · rfl
        · exact zfitc hzk
      · rw [e9]
        exact trivial)
    (g := F0 m pc ls (.int (Int32.ofInt n) :: .int (Int32.ofInt dp) :: .ref (E.2.2.1 + c1) :: .int (Int32.ofInt sp) :: .ref (E.2.2.1 + c0) :: st.map (zcv E))) rfl (by rw [g.hml]; exact g.lv.1) (rest := st.map (zcv E)) rfl (by rw [g.hb]; exact hd) (Nat.le_trans hfr.1 g.2.1.1) (by
      have h9 := Nat.le_trans hfr.2 g.2.1.2
      show 2 * 0 + _ + (7 + 11) ≤ _
      omega)
  have e1 : copied (arrV (E.2.1 (k - 20)) n0' fun j => .int (Int32.ofInt (h.2.2 c0 j))) (arrV (E.2.1 (k - 20)) n1 fun j => .int (Int32.ofInt (h.2.2 c1 j))) (Int32.ofInt sp) (Int32.ofInt dp) (Int32.ofInt n) = arrV (E.2.1 (k - 20)) n1 (fun j => .int (va_cpy (fun j => Int32.ofInt (h.2.2 c0 j)) (fun j => Int32.ofInt (h.2.2 c1 j)) (Int32.ofInt sp).toNatClampNeg (Int32.ofInt dp).toNatClampNeg (Int32.ofInt n).toNatClampNeg j)) := va_copied (fun z => .int z) (E.2.1 (k - 20)) (E.2.1 (k - 20)) (fun j => Int32.ofInt (h.2.2 c0 j)) (fun j => Int32.ofInt (h.2.2 c1 j)) (by rw [zI_cl hsp3, zI_cl hn3]; omega)
  rw [e1] at X' step
  rw [zI_cl hsp3, zI_cl hdp3, zI_cl hn3] at X' step
  generalize hcell : arrV (E.2.1 (k - 20)) n1 (fun j => Value.int (va_cpy (fun j => Int32.ofInt (h.2.2 c0 j)) (fun j => Int32.ofInt (h.2.2 c1 j)) sp.toNat dp.toNat n.toNat j)) = cell at X' step
  have hl : E.2.2.1 + c1 < H.size := g.rp.sz hc1
  have hheap : ((T.setVm vm').setCell (E.2.2.1 + c1) cell).heap = H.setIfInBounds (E.2.2.1 + c1) cell := by rw [← hT]; rfl
  have oq : ∀ q : Nat, q ≠ E.2.2.1 + c1 → (H.setIfInBounds (E.2.2.1 + c1) cell)[q]? = H[q]? := fun q hq => by simp [Array.getElem?_setIfInBounds, Ne.symm hq]
  have oa : (H.setIfInBounds (E.2.2.1 + c1) cell)[E.2.2.1 + c1]? = some cell := by simp [Array.getElem?_setIfInBounds, hl]
  have z1 : (H.setIfInBounds (E.2.2.1 + c1) cell).size = H.size := by simp
  have hRp : zRp E (h.1, h.2.1, fun a j => if a = c1 ∧ dp.toNat ≤ j ∧ j < dp.toNat + n.toNat then h.2.2 c0 (sp.toNat + (j - dp.toNat)) else h.2.2 a j) (H.setIfInBounds (E.2.2.1 + c1) cell) := by
    refine g.rp.put hc1 hk99 (fun _ _ _ => rfl) (fun a b hab => if_neg fun q => hab q.1) ?_ (fun b => ?_) z1 oq
    · unfold zat
      rw [if_neg hk20, oa, ← hcell]
      congr 2
      funext j
      show _ = zav E k _ (if c1 = c1 ∧ dp.toNat ≤ j ∧ j < dp.toNat + n.toNat then _ else _)
      unfold zav va_cpy
      rw [if_pos hk23]
      congr 1
      by_cases hj : dp.toNat ≤ j ∧ j < dp.toNat + n.toNat
      · rw [if_pos hj, if_pos ⟨rfl, hj⟩]
      · rw [if_neg hj, if_neg fun q => hj q.2]
    · show zok (ztp k b) (if c1 = c1 ∧ dp.toNat ≤ b ∧ b < dp.toNat + n.toNat then _ else _)
      have hzt : ∀ a b, ztp k a = ztp k b := by
        intro a b
        unfold ztp
        rw [if_neg hk20, if_neg hk20]
      split
      · have := g.rp.2.2.2.1 _ _ _ (sp.toNat + (b - dp.toNat)) hc0
        rw [hzt b (sp.toNat + (b - dp.toNat))]
        exact this
      · exact g.rp.2.2.2.1 _ _ _ b hc1
  have hSf : zSf E s.heap (H.setIfInBounds (E.2.2.1 + c1) cell) _ := ⟨fun q hq => by rw [oq q (by omega)]; exact g.sf.1 q hq, fun x hx => by
      rcases List.mem_append.mp hx with hx | hx
      · exact g.sf.2.1 x hx
      · obtain ⟨z, -, hz⟩ := List.mem_map.mp hx
        rw [← hz]
        show E.2.2.1 < E.2.2.1 + c1
        omega, by rw [z1]; exact g.sf.2.2⟩
  obtain ⟨t, a1, b1⟩ := k0.2 E p l e R s m args below meth c _ _ cells slots n0 s0 Q ls (g.hp g.cnS.tail.tail.tail.tail.tail hRp hSf g.2.2.2.2.2.2.2.1 g.2.2.2.2.2.2.2.2.1) f _ hheap X'
  exact ⟨t, step t a1, b1⟩
end
