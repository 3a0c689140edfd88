-- ===== PART A: goes FIRST, ahead of the names: the tables' words, and 'selects' of the private methods out of them =====
/-- a private method of a class that the tables say can be made, by its rows of tables_1 -/
def lw_okq (q : MethodName × Nat) : Prop := (q.1.cls ≠ "java/lang/invoke/MethodHandle" ∧ q.1.cls ≠ "java/lang/invoke/VarHandle") ∧ Cond.instantiable q.1.cls q.2 ∈ tables_1 ∧ Cond.privateMethod q.1 ∈ tables_1 ∧ Cond.instanceMethod q.1 ∈ tables_1
theorem lw_p0 : lw_okq (⟨"HistoryJudge$Graph", "drawOrder", "(LHistoryJudge$History;I)V"⟩, 3) := ⟨⟨by decide +kernel, by decide +kernel⟩, List.mem_of_getElem? (i := 96) (by decide +kernel), List.mem_of_getElem? (i := 205) (by decide +kernel), List.mem_of_getElem? (i := 206) (by decide +kernel)⟩
theorem lw_p1 : lw_okq (⟨"HistoryJudge$Graph", "drawRead", "(LHistoryJudge$History;I)V"⟩, 3) := ⟨⟨by decide +kernel, by decide +kernel⟩, List.mem_of_getElem? (i := 96) (by decide +kernel), List.mem_of_getElem? (i := 219) (by decide +kernel), List.mem_of_getElem? (i := 220) (by decide +kernel)⟩
theorem lw_p2 : lw_okq (⟨"HistoryJudge$History", "placeBehind", "(II)I"⟩, 12) := ⟨⟨by decide +kernel, by decide +kernel⟩, List.mem_of_getElem? (i := 25) (by decide +kernel), List.mem_of_getElem? (i := 227) (by decide +kernel), List.mem_of_getElem? (i := 228) (by decide +kernel)⟩
theorem lw_p3 : lw_okq (⟨"HistoryJudge$CycleSearch", "sortEdges", "(LHistoryJudge$Graph;I)V"⟩, 5) := ⟨⟨by decide +kernel, by decide +kernel⟩, List.mem_of_getElem? (i := 118) (by decide +kernel), List.mem_of_getElem? (i := 243) (by decide +kernel), List.mem_of_getElem? (i := 244) (by decide +kernel)⟩
theorem lw_p4 : lw_okq (⟨"HistoryJudge$CycleSearch", "measure", "(I)V"⟩, 5) := ⟨⟨by decide +kernel, by decide +kernel⟩, List.mem_of_getElem? (i := 118) (by decide +kernel), List.mem_of_getElem? (i := 247) (by decide +kernel), List.mem_of_getElem? (i := 248) (by decide +kernel)⟩
theorem lw_p5 : lw_okq (⟨"HistoryJudge$CycleSearch", "trace", "(IIZ)V"⟩, 5) := ⟨⟨by decide +kernel, by decide +kernel⟩, List.mem_of_getElem? (i := 118) (by decide +kernel), List.mem_of_getElem? (i := 259) (by decide +kernel), List.mem_of_getElem? (i := 260) (by decide +kernel)⟩
theorem lw_p6 : lw_okq (⟨"HistoryJudge$History", "isJudgedRead", "(I)Z"⟩, 12) := ⟨⟨by decide +kernel, by decide +kernel⟩, List.mem_of_getElem? (i := 25) (by decide +kernel), List.mem_of_getElem? (i := 270) (by decide +kernel), List.mem_of_getElem? (i := 271) (by decide +kernel)⟩
theorem lw_p7 : lw_okq (⟨"HistoryJudge$History", "isOfAnotherCommitted", "(I)Z"⟩, 12) := ⟨⟨by decide +kernel, by decide +kernel⟩, List.mem_of_getElem? (i := 25) (by decide +kernel), List.mem_of_getElem? (i := 279) (by decide +kernel), List.mem_of_getElem? (i := 280) (by decide +kernel)⟩
theorem lw_p8 : lw_okq (⟨"HistoryJudge$SerialSearch", "takeReads", "(LHistoryJudge$History;)V"⟩, 5) := ⟨⟨by decide +kernel, by decide +kernel⟩, List.mem_of_getElem? (i := 141) (by decide +kernel), List.mem_of_getElem? (i := 309) (by decide +kernel), List.mem_of_getElem? (i := 310) (by decide +kernel)⟩
theorem lw_p9 : lw_okq (⟨"HistoryJudge$SerialSearch", "takeRead", "(LHistoryJudge$History;I)V"⟩, 5) := ⟨⟨by decide +kernel, by decide +kernel⟩, List.mem_of_getElem? (i := 141) (by decide +kernel), List.mem_of_getElem? (i := 320) (by decide +kernel), List.mem_of_getElem? (i := 321) (by decide +kernel)⟩
theorem lw_p10 : lw_okq (⟨"HistoryJudge$SerialSearch", "takeFirstRead", "(LHistoryJudge$History;II)V"⟩, 5) := ⟨⟨by decide +kernel, by decide +kernel⟩, List.mem_of_getElem? (i := 141) (by decide +kernel), List.mem_of_getElem? (i := 324) (by decide +kernel), List.mem_of_getElem? (i := 325) (by decide +kernel)⟩
theorem lw_p11 : lw_okq (⟨"HistoryJudge$SerialSearch", "takeForeignRead", "(LHistoryJudge$History;II)V"⟩, 5) := ⟨⟨by decide +kernel, by decide +kernel⟩, List.mem_of_getElem? (i := 141) (by decide +kernel), List.mem_of_getElem? (i := 335) (by decide +kernel), List.mem_of_getElem? (i := 336) (by decide +kernel)⟩
theorem lw_p12 : lw_okq (⟨"HistoryJudge$SerialSearch", "followers", "(I)I"⟩, 5) := ⟨⟨by decide +kernel, by decide +kernel⟩, List.mem_of_getElem? (i := 141) (by decide +kernel), List.mem_of_getElem? (i := 339) (by decide +kernel), List.mem_of_getElem? (i := 340) (by decide +kernel)⟩
theorem lw_p13 : lw_okq (⟨"HistoryJudge$SerialSearch", "mayFollow", "(II)Z"⟩, 5) := ⟨⟨by decide +kernel, by decide +kernel⟩, List.mem_of_getElem? (i := 141) (by decide +kernel), List.mem_of_getElem? (i := 343) (by decide +kernel), List.mem_of_getElem? (i := 344) (by decide +kernel)⟩
theorem lw_p14 : lw_okq (⟨"HistoryJudge$SerialSearch", "canBeEnded", "(I)Z"⟩, 5) := ⟨⟨by decide +kernel, by decide +kernel⟩, List.mem_of_getElem? (i := 141) (by decide +kernel), List.mem_of_getElem? (i := 347) (by decide +kernel), List.mem_of_getElem? (i := 348) (by decide +kernel)⟩
theorem lw_p15 : lw_okq (⟨"java/lang/Throwable", "fillInStackTrace", "(I)Ljava/lang/Throwable;"⟩, 6) := ⟨⟨by decide +kernel, by decide +kernel⟩, List.mem_of_getElem? (i := 430) (by decide +kernel), List.mem_of_getElem? (i := 428) (by decide +kernel), List.mem_of_getElem? (i := 429) (by decide +kernel)⟩
def lw_privs_1 : List (MethodName × Nat) := [(⟨"HistoryJudge$Graph", "drawOrder", "(LHistoryJudge$History;I)V"⟩, 3), (⟨"HistoryJudge$Graph", "drawRead", "(LHistoryJudge$History;I)V"⟩, 3), (⟨"HistoryJudge$History", "placeBehind", "(II)I"⟩, 12), (⟨"HistoryJudge$CycleSearch", "sortEdges", "(LHistoryJudge$Graph;I)V"⟩, 5), (⟨"HistoryJudge$CycleSearch", "measure", "(I)V"⟩, 5), (⟨"HistoryJudge$CycleSearch", "trace", "(IIZ)V"⟩, 5), (⟨"HistoryJudge$History", "isJudgedRead", "(I)Z"⟩, 12), (⟨"HistoryJudge$History", "isOfAnotherCommitted", "(I)Z"⟩, 12), (⟨"HistoryJudge$SerialSearch", "takeReads", "(LHistoryJudge$History;)V"⟩, 5), (⟨"HistoryJudge$SerialSearch", "takeRead", "(LHistoryJudge$History;I)V"⟩, 5), (⟨"HistoryJudge$SerialSearch", "takeFirstRead", "(LHistoryJudge$History;II)V"⟩, 5), (⟨"HistoryJudge$SerialSearch", "takeForeignRead", "(LHistoryJudge$History;II)V"⟩, 5), (⟨"HistoryJudge$SerialSearch", "followers", "(I)I"⟩, 5), (⟨"HistoryJudge$SerialSearch", "mayFollow", "(II)Z"⟩, 5), (⟨"HistoryJudge$SerialSearch", "canBeEnded", "(I)Z"⟩, 5), (⟨"java/lang/Throwable", "fillInStackTrace", "(I)Ljava/lang/Throwable;"⟩, 6)]
theorem lw_r1 : ∀ q ∈ lw_privs_1, lw_okq q := List.forall_mem_cons.mpr ⟨lw_p0, List.forall_mem_cons.mpr ⟨lw_p1, List.forall_mem_cons.mpr ⟨lw_p2, List.forall_mem_cons.mpr ⟨lw_p3, List.forall_mem_cons.mpr ⟨lw_p4, List.forall_mem_cons.mpr ⟨lw_p5, List.forall_mem_cons.mpr ⟨lw_p6, List.forall_mem_cons.mpr ⟨lw_p7, List.forall_mem_cons.mpr ⟨lw_p8, List.forall_mem_cons.mpr ⟨lw_p9, List.forall_mem_cons.mpr ⟨lw_p10, List.forall_mem_cons.mpr ⟨lw_p11, List.forall_mem_cons.mpr ⟨lw_p12, List.forall_mem_cons.mpr ⟨lw_p13, List.forall_mem_cons.mpr ⟨lw_p14, List.forall_mem_cons.mpr ⟨lw_p15, fun _ h => absurd h List.not_mem_nil⟩⟩⟩⟩⟩⟩⟩⟩⟩⟩⟩⟩⟩⟩⟩⟩
theorem lw_p16 : lw_okq (⟨"HistoryJudgeModel", "note", "(IIIZ)V"⟩, 18) := ⟨⟨by decide +kernel, by decide +kernel⟩, List.mem_of_getElem? (i := 535) (by decide +kernel), List.mem_of_getElem? (i := 611) (by decide +kernel), List.mem_of_getElem? (i := 612) (by decide +kernel)⟩
theorem lw_p17 : lw_okq (⟨"HistoryJudgeModel", "isVersion", "(II)Z"⟩, 18) := ⟨⟨by decide +kernel, by decide +kernel⟩, List.mem_of_getElem? (i := 535) (by decide +kernel), List.mem_of_getElem? (i := 619) (by decide +kernel), List.mem_of_getElem? (i := 620) (by decide +kernel)⟩
theorem lw_p18 : lw_okq (⟨"HistoryJudgeModel", "isFinal", "(I)Z"⟩, 18) := ⟨⟨by decide +kernel, by decide +kernel⟩, List.mem_of_getElem? (i := 535) (by decide +kernel), List.mem_of_getElem? (i := 627) (by decide +kernel), List.mem_of_getElem? (i := 628) (by decide +kernel)⟩
theorem lw_p19 : lw_okq (⟨"HistoryJudgeModel", "edge", "(II)I"⟩, 18) := ⟨⟨by decide +kernel, by decide +kernel⟩, List.mem_of_getElem? (i := 535) (by decide +kernel), List.mem_of_getElem? (i := 651) (by decide +kernel), List.mem_of_getElem? (i := 652) (by decide +kernel)⟩
theorem lw_p20 : lw_okq (⟨"HistoryJudgeModel", "isCommitted", "(I)Z"⟩, 18) := ⟨⟨by decide +kernel, by decide +kernel⟩, List.mem_of_getElem? (i := 535) (by decide +kernel), List.mem_of_getElem? (i := 655) (by decide +kernel), List.mem_of_getElem? (i := 656) (by decide +kernel)⟩
theorem lw_p21 : lw_okq (⟨"HistoryJudgeModel", "follows", "(II)Z"⟩, 18) := ⟨⟨by decide +kernel, by decide +kernel⟩, List.mem_of_getElem? (i := 535) (by decide +kernel), List.mem_of_getElem? (i := 659) (by decide +kernel), List.mem_of_getElem? (i := 660) (by decide +kernel)⟩
theorem lw_p22 : lw_okq (⟨"HistoryJudgeModel", "nextOf", "(II)I"⟩, 18) := ⟨⟨by decide +kernel, by decide +kernel⟩, List.mem_of_getElem? (i := 535) (by decide +kernel), List.mem_of_getElem? (i := 663) (by decide +kernel), List.mem_of_getElem? (i := 664) (by decide +kernel)⟩
theorem lw_p23 : lw_okq (⟨"HistoryJudgeModel", "hasRead", "(II)Z"⟩, 18) := ⟨⟨by decide +kernel, by decide +kernel⟩, List.mem_of_getElem? (i := 535) (by decide +kernel), List.mem_of_getElem? (i := 667) (by decide +kernel), List.mem_of_getElem? (i := 668) (by decide +kernel)⟩
theorem lw_p24 : lw_okq (⟨"HistoryJudgeModel", "overtaken", "(II)Z"⟩, 18) := ⟨⟨by decide +kernel, by decide +kernel⟩, List.mem_of_getElem? (i := 535) (by decide +kernel), List.mem_of_getElem? (i := 671) (by decide +kernel), List.mem_of_getElem? (i := 672) (by decide +kernel)⟩
theorem lw_p25 : lw_okq (⟨"HistoryJudgeModel", "findCycle", "(I)I"⟩, 18) := ⟨⟨by decide +kernel, by decide +kernel⟩, List.mem_of_getElem? (i := 535) (by decide +kernel), List.mem_of_getElem? (i := 679) (by decide +kernel), List.mem_of_getElem? (i := 680) (by decide +kernel)⟩
theorem lw_p26 : lw_okq (⟨"HistoryJudgeModel", "draw", "()V"⟩, 18) := ⟨⟨by decide +kernel, by decide +kernel⟩, List.mem_of_getElem? (i := 535) (by decide +kernel), List.mem_of_getElem? (i := 683) (by decide +kernel), List.mem_of_getElem? (i := 684) (by decide +kernel)⟩
theorem lw_p27 : lw_okq (⟨"HistoryJudgeModel", "tryRows", "(II)Z"⟩, 18) := ⟨⟨by decide +kernel, by decide +kernel⟩, List.mem_of_getElem? (i := 535) (by decide +kernel), List.mem_of_getElem? (i := 687) (by decide +kernel), List.mem_of_getElem? (i := 688) (by decide +kernel)⟩
theorem lw_p28 : lw_okq (⟨"HistoryJudgeModel", "fits", "(III)Z"⟩, 18) := ⟨⟨by decide +kernel, by decide +kernel⟩, List.mem_of_getElem? (i := 535) (by decide +kernel), List.mem_of_getElem? (i := 691) (by decide +kernel), List.mem_of_getElem? (i := 692) (by decide +kernel)⟩
theorem lw_p29 : lw_okq (⟨"HistoryJudgeModel", "inRow", "(II)Z"⟩, 18) := ⟨⟨by decide +kernel, by decide +kernel⟩, List.mem_of_getElem? (i := 535) (by decide +kernel), List.mem_of_getElem? (i := 695) (by decide +kernel), List.mem_of_getElem? (i := 696) (by decide +kernel)⟩
theorem lw_p30 : lw_okq (⟨"HistoryJudgeModel", "closes", "(II)Z"⟩, 18) := ⟨⟨by decide +kernel, by decide +kernel⟩, List.mem_of_getElem? (i := 535) (by decide +kernel), List.mem_of_getElem? (i := 702) (by decide +kernel), List.mem_of_getElem? (i := 703) (by decide +kernel)⟩
theorem lw_p31 : lw_okq (⟨"HistoryJudgeModel", "allFlaws", "()I"⟩, 18) := ⟨⟨by decide +kernel, by decide +kernel⟩, List.mem_of_getElem? (i := 535) (by decide +kernel), List.mem_of_getElem? (i := 714) (by decide +kernel), List.mem_of_getElem? (i := 715) (by decide +kernel)⟩
def lw_privs_2 : List (MethodName × Nat) := [(⟨"HistoryJudgeModel", "note", "(IIIZ)V"⟩, 18), (⟨"HistoryJudgeModel", "isVersion", "(II)Z"⟩, 18), (⟨"HistoryJudgeModel", "isFinal", "(I)Z"⟩, 18), (⟨"HistoryJudgeModel", "edge", "(II)I"⟩, 18), (⟨"HistoryJudgeModel", "isCommitted", "(I)Z"⟩, 18), (⟨"HistoryJudgeModel", "follows", "(II)Z"⟩, 18), (⟨"HistoryJudgeModel", "nextOf", "(II)I"⟩, 18), (⟨"HistoryJudgeModel", "hasRead", "(II)Z"⟩, 18), (⟨"HistoryJudgeModel", "overtaken", "(II)Z"⟩, 18), (⟨"HistoryJudgeModel", "findCycle", "(I)I"⟩, 18), (⟨"HistoryJudgeModel", "draw", "()V"⟩, 18), (⟨"HistoryJudgeModel", "tryRows", "(II)Z"⟩, 18), (⟨"HistoryJudgeModel", "fits", "(III)Z"⟩, 18), (⟨"HistoryJudgeModel", "inRow", "(II)Z"⟩, 18), (⟨"HistoryJudgeModel", "closes", "(II)Z"⟩, 18), (⟨"HistoryJudgeModel", "allFlaws", "()I"⟩, 18)]
theorem lw_r2 : ∀ q ∈ lw_privs_2, lw_okq q := List.forall_mem_cons.mpr ⟨lw_p16, List.forall_mem_cons.mpr ⟨lw_p17, List.forall_mem_cons.mpr ⟨lw_p18, List.forall_mem_cons.mpr ⟨lw_p19, List.forall_mem_cons.mpr ⟨lw_p20, List.forall_mem_cons.mpr ⟨lw_p21, List.forall_mem_cons.mpr ⟨lw_p22, List.forall_mem_cons.mpr ⟨lw_p23, List.forall_mem_cons.mpr ⟨lw_p24, List.forall_mem_cons.mpr ⟨lw_p25, List.forall_mem_cons.mpr ⟨lw_p26, List.forall_mem_cons.mpr ⟨lw_p27, List.forall_mem_cons.mpr ⟨lw_p28, List.forall_mem_cons.mpr ⟨lw_p29, List.forall_mem_cons.mpr ⟨lw_p30, List.forall_mem_cons.mpr ⟨lw_p31, fun _ h => absurd h List.not_mem_nil⟩⟩⟩⟩⟩⟩⟩⟩⟩⟩⟩⟩⟩⟩⟩⟩
theorem lw_p32 : lw_okq (⟨"HistoryJudgeModel", "readFlaws", "()I"⟩, 18) := ⟨⟨by decide +kernel, by decide +kernel⟩, List.mem_of_getElem? (i := 535) (by decide +kernel), List.mem_of_getElem? (i := 718) (by decide +kernel), List.mem_of_getElem? (i := 719) (by decide +kernel)⟩
theorem lw_p33 : lw_okq (⟨"HistoryJudgeModel", "tryOrders", "(II)Z"⟩, 18) := ⟨⟨by decide +kernel, by decide +kernel⟩, List.mem_of_getElem? (i := 535) (by decide +kernel), List.mem_of_getElem? (i := 730) (by decide +kernel), List.mem_of_getElem? (i := 731) (by decide +kernel)⟩
theorem lw_p34 : lw_okq (⟨"HistoryJudgeModel", "committed", "()I"⟩, 18) := ⟨⟨by decide +kernel, by decide +kernel⟩, List.mem_of_getElem? (i := 535) (by decide +kernel), List.mem_of_getElem? (i := 734) (by decide +kernel), List.mem_of_getElem? (i := 735) (by decide +kernel)⟩
theorem lw_p35 : lw_okq (⟨"HistoryJudgeModel", "runs", "(II)Z"⟩, 18) := ⟨⟨by decide +kernel, by decide +kernel⟩, List.mem_of_getElem? (i := 535) (by decide +kernel), List.mem_of_getElem? (i := 738) (by decide +kernel), List.mem_of_getElem? (i := 739) (by decide +kernel)⟩
def lw_privs_3 : List (MethodName × Nat) := [(⟨"HistoryJudgeModel", "readFlaws", "()I"⟩, 18), (⟨"HistoryJudgeModel", "tryOrders", "(II)Z"⟩, 18), (⟨"HistoryJudgeModel", "committed", "()I"⟩, 18), (⟨"HistoryJudgeModel", "runs", "(II)Z"⟩, 18)]
theorem lw_r3 : ∀ q ∈ lw_privs_3, lw_okq q := List.forall_mem_cons.mpr ⟨lw_p32, List.forall_mem_cons.mpr ⟨lw_p33, List.forall_mem_cons.mpr ⟨lw_p34, List.forall_mem_cons.mpr ⟨lw_p35, fun _ h => absurd h List.not_mem_nil⟩⟩⟩⟩
def lw_privs : List (MethodName × Nat) := lw_privs_1 ++ (lw_privs_2 ++ (lw_privs_3))
def lw_tbl : List Cond := k2_sels lw_privs ++ tables_1
theorem lw_privs_ok : ∀ q ∈ lw_privs, lw_okq q := by
  show ∀ q ∈ lw_privs_1 ++ (lw_privs_2 ++ (lw_privs_3)), lw_okq q
  exact List.forall_mem_append.mpr ⟨lw_r1, List.forall_mem_append.mpr ⟨lw_r2, lw_r3⟩⟩
/-! names: the words of the tables that the walks use, the methods, their bytes -/
def jW0 : List Cond := [
  .selects "HistoryJudge$Graph" ⟨"HistoryJudge$Graph", "drawOrder", "(LHistoryJudge$History;I)V"⟩ ⟨"HistoryJudge$Graph", "drawOrder", "(LHistoryJudge$History;I)V"⟩,
  .selects "HistoryJudge$Graph" ⟨"HistoryJudge$Graph", "drawRead", "(LHistoryJudge$History;I)V"⟩ ⟨"HistoryJudge$Graph", "drawRead", "(LHistoryJudge$History;I)V"⟩,
  .selects "HistoryJudge$History" ⟨"HistoryJudge$History", "placeBehind", "(II)I"⟩ ⟨"HistoryJudge$History", "placeBehind", "(II)I"⟩,
  .selects "HistoryJudge$CycleSearch" ⟨"HistoryJudge$CycleSearch", "sortEdges", "(LHistoryJudge$Graph;I)V"⟩ ⟨"HistoryJudge$CycleSearch", "sortEdges", "(LHistoryJudge$Graph;I)V"⟩,
  .selects "HistoryJudge$CycleSearch" ⟨"HistoryJudge$CycleSearch", "measure", "(I)V"⟩ ⟨"HistoryJudge$CycleSearch", "measure", "(I)V"⟩,
  .selects "HistoryJudge$CycleSearch" ⟨"HistoryJudge$CycleSearch", "trace", "(IIZ)V"⟩ ⟨"HistoryJudge$CycleSearch", "trace", "(IIZ)V"⟩,
  .selects "HistoryJudge$History" ⟨"HistoryJudge$History", "isJudgedRead", "(I)Z"⟩ ⟨"HistoryJudge$History", "isJudgedRead", "(I)Z"⟩,
  .selects "HistoryJudge$History" ⟨"HistoryJudge$History", "isOfAnotherCommitted", "(I)Z"⟩ ⟨"HistoryJudge$History", "isOfAnotherCommitted", "(I)Z"⟩,
  .selects "HistoryJudge$SerialSearch" ⟨"HistoryJudge$SerialSearch", "takeReads", "(LHistoryJudge$History;)V"⟩ ⟨"HistoryJudge$SerialSearch", "takeReads", "(LHistoryJudge$History;)V"⟩,
  .selects "HistoryJudge$SerialSearch" ⟨"HistoryJudge$SerialSearch", "takeRead", "(LHistoryJudge$History;I)V"⟩ ⟨"HistoryJudge$SerialSearch", "takeRead", "(LHistoryJudge$History;I)V"⟩,
  .selects "HistoryJudge$SerialSearch" ⟨"HistoryJudge$SerialSearch", "takeFirstRead", "(LHistoryJudge$History;II)V"⟩ ⟨"HistoryJudge$SerialSearch", "takeFirstRead", "(LHistoryJudge$History;II)V"⟩,
  .selects "HistoryJudge$SerialSearch" ⟨"HistoryJudge$SerialSearch", "takeForeignRead", "(LHistoryJudge$History;II)V"⟩ ⟨"HistoryJudge$SerialSearch", "takeForeignRead", "(LHistoryJudge$History;II)V"⟩,
  .selects "HistoryJudge$SerialSearch" ⟨"HistoryJudge$SerialSearch", "followers", "(I)I"⟩ ⟨"HistoryJudge$SerialSearch", "followers", "(I)I"⟩,
  .selects "HistoryJudge$SerialSearch" ⟨"HistoryJudge$SerialSearch", "mayFollow", "(II)Z"⟩ ⟨"HistoryJudge$SerialSearch", "mayFollow", "(II)Z"⟩,
  .selects "HistoryJudge$SerialSearch" ⟨"HistoryJudge$SerialSearch", "canBeEnded", "(I)Z"⟩ ⟨"HistoryJudge$SerialSearch", "canBeEnded", "(I)Z"⟩,
  .selects "HistoryJudgeModel" ⟨"HistoryJudgeModel", "note", "(IIIZ)V"⟩ ⟨"HistoryJudgeModel", "note", "(IIIZ)V"⟩,
  .selects "HistoryJudgeModel" ⟨"HistoryJudgeModel", "isVersion", "(II)Z"⟩ ⟨"HistoryJudgeModel", "isVersion", "(II)Z"⟩,
  .selects "HistoryJudgeModel" ⟨"HistoryJudgeModel", "isFinal", "(I)Z"⟩ ⟨"HistoryJudgeModel", "isFinal", "(I)Z"⟩,
  .selects "HistoryJudgeModel" ⟨"HistoryJudgeModel", "edge", "(II)I"⟩ ⟨"HistoryJudgeModel", "edge", "(II)I"⟩,
  .selects "HistoryJudgeModel" ⟨"HistoryJudgeModel", "isCommitted", "(I)Z"⟩ ⟨"HistoryJudgeModel", "isCommitted", "(I)Z"⟩,
  .selects "HistoryJudgeModel" ⟨"HistoryJudgeModel", "follows", "(II)Z"⟩ ⟨"HistoryJudgeModel", "follows", "(II)Z"⟩,
  .selects "HistoryJudgeModel" ⟨"HistoryJudgeModel", "nextOf", "(II)I"⟩ ⟨"HistoryJudgeModel", "nextOf", "(II)I"⟩,
  .selects "HistoryJudgeModel" ⟨"HistoryJudgeModel", "hasRead", "(II)Z"⟩ ⟨"HistoryJudgeModel", "hasRead", "(II)Z"⟩,
  .selects "HistoryJudgeModel" ⟨"HistoryJudgeModel", "overtaken", "(II)Z"⟩ ⟨"HistoryJudgeModel", "overtaken", "(II)Z"⟩,
  .selects "HistoryJudgeModel" ⟨"HistoryJudgeModel", "findCycle", "(I)I"⟩ ⟨"HistoryJudgeModel", "findCycle", "(I)I"⟩,
  .selects "HistoryJudgeModel" ⟨"HistoryJudgeModel", "draw", "()V"⟩ ⟨"HistoryJudgeModel", "draw", "()V"⟩,
  .selects "HistoryJudgeModel" ⟨"HistoryJudgeModel", "tryRows", "(II)Z"⟩ ⟨"HistoryJudgeModel", "tryRows", "(II)Z"⟩,
  .selects "HistoryJudgeModel" ⟨"HistoryJudgeModel", "fits", "(III)Z"⟩ ⟨"HistoryJudgeModel", "fits", "(III)Z"⟩,
  .selects "HistoryJudgeModel" ⟨"HistoryJudgeModel", "inRow", "(II)Z"⟩ ⟨"HistoryJudgeModel", "inRow", "(II)Z"⟩,
  .selects "HistoryJudgeModel" ⟨"HistoryJudgeModel", "closes", "(II)Z"⟩ ⟨"HistoryJudgeModel", "closes", "(II)Z"⟩,
  .selects "HistoryJudgeModel" ⟨"HistoryJudgeModel", "allFlaws", "()I"⟩ ⟨"HistoryJudgeModel", "allFlaws", "()I"⟩,
  .selects "HistoryJudgeModel" ⟨"HistoryJudgeModel", "readFlaws", "()I"⟩ ⟨"HistoryJudgeModel", "readFlaws", "()I"⟩,
  .selects "HistoryJudgeModel" ⟨"HistoryJudgeModel", "tryOrders", "(II)Z"⟩ ⟨"HistoryJudgeModel", "tryOrders", "(II)Z"⟩,
  .selects "HistoryJudgeModel" ⟨"HistoryJudgeModel", "committed", "()I"⟩ ⟨"HistoryJudgeModel", "committed", "()I"⟩,
  .selects "HistoryJudgeModel" ⟨"HistoryJudgeModel", "runs", "(II)Z"⟩ ⟨"HistoryJudgeModel", "runs", "(II)Z"⟩,
  .initialized "HistoryJudgeLaw",
  .initialized "HistoryJudge",
  .initialized "HistoryJudge$History",
  .initialized "java/util/Arrays",
  .initialized "HistoryJudge$Graph",
  .initialized "HistoryJudge$CycleSearch",
  .initialized "HistoryJudge$SerialSearch",
  .initialized "HistoryJudgeModel",
  .initialized "java/lang/Throwable",
  .initialized "java/lang/Exception",
  .initialized "java/lang/RuntimeException",
  .initialized "java/lang/IllegalArgumentException",
  .initialized "java/lang/IllegalStateException",
  .initialized "java/lang/UnsupportedOperationException",
  .initialized "java/util/NoSuchElementException",
  .initialized "java/lang/Integer",
  .classLink "HistoryJudgeLaw" 8 "HistoryJudge",
  .instantiable "HistoryJudge" 4,
  .methodLink "HistoryJudgeLaw" 29 ⟨"HistoryJudge", "<init>", "()V"⟩,
  .instanceMethod ⟨"HistoryJudge", "<init>", "()V"⟩,
  .code ⟨"HistoryJudge", "<init>", "()V"⟩ prog_1_method_1_code 1 none,
  .methodLink "HistoryJudge" 1 ⟨"java/lang/Object", "<init>", "()V"⟩,
  .instanceMethod ⟨"java/lang/Object", "<init>", "()V"⟩,
  .code ⟨"java/lang/Object", "<init>", "()V"⟩ object_method_1_code 1 none,
  .classLink "HistoryJudge" 7 "HistoryJudge$History"]
def jW1 : List Cond := [
  .instantiable "HistoryJudge$History" 12,
  .methodLink "HistoryJudge" 9 ⟨"HistoryJudge$History", "<init>", "()V"⟩,
  .instanceMethod ⟨"HistoryJudge$History", "<init>", "()V"⟩,
  .code ⟨"HistoryJudge$History", "<init>", "()V"⟩ prog_4_method_1_code 1 none,
  .methodLink "HistoryJudge$History" 3 ⟨"java/lang/Object", "<init>", "()V"⟩,
  .classLink "HistoryJudge$History" 33 "[[I",
  .methodLink "HistoryJudge$History" 44 ⟨"HistoryJudge$History", "reset", "()V"⟩,
  .instanceMethod ⟨"HistoryJudge$History", "reset", "()V"⟩,
  .selects "HistoryJudge$History" ⟨"HistoryJudge$History", "reset", "()V"⟩ ⟨"HistoryJudge$History", "reset", "()V"⟩,
  .code ⟨"HistoryJudge$History", "reset", "()V"⟩ prog_4_method_2_code 2 none,
  .methodLink "HistoryJudge$History" 54 ⟨"java/util/Arrays", "fill", "([II)V"⟩,
  .static ⟨"java/util/Arrays", "fill", "([II)V"⟩,
  .code ⟨"java/util/Arrays", "fill", "([II)V"⟩ prog_15_method_103_code 4 none,
  .fieldLink "HistoryJudge$History" 9 "HistoryJudge$History" "states" "[I",
  .fieldLink "HistoryJudge" 78 "HistoryJudge$History" "states" "[I",
  .fieldLink "HistoryJudge$History" 15 "HistoryJudge$History" "writers" "[I",
  .fieldLink "HistoryJudge$Graph" 54 "HistoryJudge$History" "writers" "[I",
  .fieldLink "HistoryJudge$SerialSearch" 96 "HistoryJudge$History" "writers" "[I",
  .fieldLink "HistoryJudge$History" 18 "HistoryJudge$History" "writtenItems" "[I",
  .fieldLink "HistoryJudge$History" 47 "HistoryJudge$History" "versions" "I",
  .fieldLink "HistoryJudge" 53 "HistoryJudge$History" "versions" "I",
  .fieldLink "HistoryJudge$History" 21 "HistoryJudge$History" "readers" "[I",
  .fieldLink "HistoryJudge$Graph" 37 "HistoryJudge$History" "readers" "[I",
  .fieldLink "HistoryJudge$SerialSearch" 73 "HistoryJudge$History" "readers" "[I",
  .fieldLink "HistoryJudge$History" 24 "HistoryJudge$History" "readItems" "[I",
  .fieldLink "HistoryJudge$Graph" 64 "HistoryJudge$History" "readItems" "[I",
  .fieldLink "HistoryJudge$SerialSearch" 89 "HistoryJudge$History" "readItems" "[I",
  .fieldLink "HistoryJudge$History" 27 "HistoryJudge$History" "readVersions" "[I",
  .fieldLink "HistoryJudge$Graph" 61 "HistoryJudge$History" "readVersions" "[I",
  .fieldLink "HistoryJudge$SerialSearch" 83 "HistoryJudge$History" "readVersions" "[I",
  .fieldLink "HistoryJudge$History" 30 "HistoryJudge$History" "ownVersions" "[I",
  .fieldLink "HistoryJudge$SerialSearch" 86 "HistoryJudge$History" "ownVersions" "[I",
  .fieldLink "HistoryJudge$History" 51 "HistoryJudge$History" "reads" "I",
  .fieldLink "HistoryJudge$Graph" 31 "HistoryJudge$History" "reads" "I",
  .fieldLink "HistoryJudge" 71 "HistoryJudge$History" "reads" "I",
  .fieldLink "HistoryJudge$SerialSearch" 70 "HistoryJudge$History" "reads" "I",
  .fieldLink "HistoryJudge$History" 35 "HistoryJudge$History" "latest" "[[I",
  .fieldLink "HistoryJudge$History" 38 "HistoryJudge$History" "order" "[[I",
  .fieldLink "HistoryJudge$Graph" 47 "HistoryJudge$History" "order" "[[I",
  .fieldLink "HistoryJudge" 89 "HistoryJudge$History" "order" "[[I",
  .fieldLink "HistoryJudge$History" 41 "HistoryJudge$History" "ordered" "[I",
  .fieldLink "HistoryJudge$Graph" 51 "HistoryJudge$History" "ordered" "[I",
  .fieldLink "HistoryJudge" 86 "HistoryJudge$History" "ordered" "[I",
  .laysFinal "HistoryJudge$History" "HistoryJudge$History" "states" "[I",
  .laysFinal "HistoryJudge$History" "HistoryJudge$History" "writers" "[I",
  .laysFinal "HistoryJudge$History" "HistoryJudge$History" "writtenItems" "[I",
  .lays "HistoryJudge$History" "HistoryJudge$History" "versions" "I",
  .laysFinal "HistoryJudge$History" "HistoryJudge$History" "readers" "[I",
  .laysFinal "HistoryJudge$History" "HistoryJudge$History" "readItems" "[I",
  .laysFinal "HistoryJudge$History" "HistoryJudge$History" "readVersions" "[I",
  .laysFinal "HistoryJudge$History" "HistoryJudge$History" "ownVersions" "[I",
  .lays "HistoryJudge$History" "HistoryJudge$History" "reads" "I",
  .laysFinal "HistoryJudge$History" "HistoryJudge$History" "latest" "[[I",
  .laysFinal "HistoryJudge$History" "HistoryJudge$History" "order" "[[I",
  .laysFinal "HistoryJudge$History" "HistoryJudge$History" "ordered" "[I",
  .arrayClass FieldType.int,
  .classLink "HistoryJudge" 16 "HistoryJudge$Graph",
  .instantiable "HistoryJudge$Graph" 3,
  .instanceMethod ⟨"HistoryJudge$Graph", "<init>", "()V"⟩,
  .code ⟨"HistoryJudge$Graph", "<init>", "()V"⟩ prog_3_method_1_code 1 none]
def jW2 : List Cond := [
  .methodLink "HistoryJudge$Graph" 3 ⟨"java/lang/Object", "<init>", "()V"⟩,
  .fieldLink "HistoryJudge$Graph" 9 "HistoryJudge$Graph" "ww" "[I",
  .fieldLink "HistoryJudge$CycleSearch" 51 "HistoryJudge$Graph" "ww" "[I",
  .fieldLink "HistoryJudge" 97 "HistoryJudge$Graph" "ww" "[I",
  .fieldLink "HistoryJudge$Graph" 15 "HistoryJudge$Graph" "wr" "[I",
  .fieldLink "HistoryJudge$CycleSearch" 43 "HistoryJudge$Graph" "wr" "[I",
  .fieldLink "HistoryJudge" 103 "HistoryJudge$Graph" "wr" "[I",
  .fieldLink "HistoryJudge$Graph" 18 "HistoryJudge$Graph" "rw" "[I",
  .fieldLink "HistoryJudge$CycleSearch" 48 "HistoryJudge$Graph" "rw" "[I",
  .fieldLink "HistoryJudge" 106 "HistoryJudge$Graph" "rw" "[I",
  .laysFinal "HistoryJudge$Graph" "HistoryJudge$Graph" "ww" "[I",
  .laysFinal "HistoryJudge$Graph" "HistoryJudge$Graph" "wr" "[I",
  .laysFinal "HistoryJudge$Graph" "HistoryJudge$Graph" "rw" "[I",
  .classLink "HistoryJudge" 23 "HistoryJudge$CycleSearch",
  .instantiable "HistoryJudge$CycleSearch" 5,
  .instanceMethod ⟨"HistoryJudge$CycleSearch", "<init>", "()V"⟩,
  .code ⟨"HistoryJudge$CycleSearch", "<init>", "()V"⟩ prog_2_method_1_code 1 none,
  .methodLink "HistoryJudge$CycleSearch" 3 ⟨"java/lang/Object", "<init>", "()V"⟩,
  .fieldLink "HistoryJudge$CycleSearch" 9 "HistoryJudge$CycleSearch" "plain" "[I",
  .fieldLink "HistoryJudge$CycleSearch" 15 "HistoryJudge$CycleSearch" "marked" "[I",
  .fieldLink "HistoryJudge$CycleSearch" 18 "HistoryJudge$CycleSearch" "paid" "[I",
  .fieldLink "HistoryJudge$CycleSearch" 21 "HistoryJudge$CycleSearch" "owing" "[I",
  .fieldLink "HistoryJudge$CycleSearch" 24 "HistoryJudge$CycleSearch" "row" "[I",
  .fieldLink "HistoryJudge" 128 "HistoryJudge$CycleSearch" "row" "[I",
  .laysFinal "HistoryJudge$CycleSearch" "HistoryJudge$CycleSearch" "plain" "[I",
  .laysFinal "HistoryJudge$CycleSearch" "HistoryJudge$CycleSearch" "marked" "[I",
  .laysFinal "HistoryJudge$CycleSearch" "HistoryJudge$CycleSearch" "paid" "[I",
  .laysFinal "HistoryJudge$CycleSearch" "HistoryJudge$CycleSearch" "owing" "[I",
  .laysFinal "HistoryJudge$CycleSearch" "HistoryJudge$CycleSearch" "row" "[I",
  .classLink "HistoryJudge" 30 "HistoryJudge$SerialSearch",
  .instantiable "HistoryJudge$SerialSearch" 5,
  .instanceMethod ⟨"HistoryJudge$SerialSearch", "<init>", "()V"⟩,
  .code ⟨"HistoryJudge$SerialSearch", "<init>", "()V"⟩ prog_5_method_1_code 1 none,
  .methodLink "HistoryJudge$SerialSearch" 3 ⟨"java/lang/Object", "<init>", "()V"⟩,
  .classLink "HistoryJudge$SerialSearch" 15 "[[I",
  .fieldLink "HistoryJudge$SerialSearch" 9 "HistoryJudge$SerialSearch" "before" "[I",
  .fieldLink "HistoryJudge$SerialSearch" 17 "HistoryJudge$SerialSearch" "readersBetween" "[[I",
  .fieldLink "HistoryJudge$SerialSearch" 20 "HistoryJudge$SerialSearch" "nexts" "[I",
  .fieldLink "HistoryJudge" 140 "HistoryJudge$SerialSearch" "nexts" "[I",
  .fieldLink "HistoryJudge$SerialSearch" 31 "HistoryJudge$SerialSearch" "committed" "I",
  .fieldLink "HistoryJudge$SerialSearch" 27 "HistoryJudge$SerialSearch" "sound" "Z",
  .laysFinal "HistoryJudge$SerialSearch" "HistoryJudge$SerialSearch" "before" "[I",
  .laysFinal "HistoryJudge$SerialSearch" "HistoryJudge$SerialSearch" "readersBetween" "[[I",
  .laysFinal "HistoryJudge$SerialSearch" "HistoryJudge$SerialSearch" "nexts" "[I",
  .lays "HistoryJudge$SerialSearch" "HistoryJudge$SerialSearch" "committed" "I",
  .lays "HistoryJudge$SerialSearch" "HistoryJudge$SerialSearch" "sound" "Z",
  .fieldLink "HistoryJudge" 10 "HistoryJudge" "history" "LHistoryJudge$History;",
  .fieldLink "HistoryJudge" 19 "HistoryJudge" "graph" "LHistoryJudge$Graph;",
  .fieldLink "HistoryJudge" 26 "HistoryJudge" "cycles" "LHistoryJudge$CycleSearch;",
  .fieldLink "HistoryJudge" 33 "HistoryJudge" "serials" "LHistoryJudge$SerialSearch;",
  .laysFinal "HistoryJudge" "HistoryJudge" "history" "LHistoryJudge$History;",
  .laysFinal "HistoryJudge" "HistoryJudge" "graph" "LHistoryJudge$Graph;",
  .laysFinal "HistoryJudge" "HistoryJudge" "cycles" "LHistoryJudge$CycleSearch;",
  .laysFinal "HistoryJudge" "HistoryJudge" "serials" "LHistoryJudge$SerialSearch;",
  .methodLink "HistoryJudgeLaw" 51 ⟨"HistoryJudge", "state", "(I)I"⟩,
  .instanceMethod ⟨"HistoryJudge", "state", "(I)I"⟩,
  .selects "HistoryJudge" ⟨"HistoryJudge", "state", "(I)I"⟩ ⟨"HistoryJudge", "state", "(I)I"⟩,
  .code ⟨"HistoryJudge", "state", "(I)I"⟩ prog_1_method_5_code 2 (some FieldType.int),
  .methodLink "HistoryJudge" 37 ⟨"HistoryJudge", "isTransaction", "(I)Z"⟩,
  .static ⟨"HistoryJudge", "isTransaction", "(I)Z"⟩]
def jW3 : List Cond := [
  .code ⟨"HistoryJudge", "isTransaction", "(I)Z"⟩ prog_1_method_17_code 1 (some FieldType.boolean),
  .methodLink "HistoryJudgeLaw" 56 ⟨"HistoryJudge", "version", "(II)I"⟩,
  .instanceMethod ⟨"HistoryJudge", "version", "(II)I"⟩,
  .selects "HistoryJudge" ⟨"HistoryJudge", "version", "(II)I"⟩ ⟨"HistoryJudge", "version", "(II)I"⟩,
  .code ⟨"HistoryJudge", "version", "(II)I"⟩ prog_1_method_6_code 3 (some FieldType.int),
  .methodLink "HistoryJudge" 41 ⟨"HistoryJudge", "isItem", "(I)Z"⟩,
  .static ⟨"HistoryJudge", "isItem", "(I)Z"⟩,
  .code ⟨"HistoryJudge", "isItem", "(I)Z"⟩ prog_1_method_18_code 1 (some FieldType.boolean),
  .methodLink "HistoryJudgeLaw" 60 ⟨"HistoryJudge", "exchange", "(II)Z"⟩,
  .instanceMethod ⟨"HistoryJudge", "exchange", "(II)Z"⟩,
  .selects "HistoryJudge" ⟨"HistoryJudge", "exchange", "(II)Z"⟩ ⟨"HistoryJudge", "exchange", "(II)Z"⟩,
  .code ⟨"HistoryJudge", "exchange", "(II)Z"⟩ prog_1_method_7_code 5 (some FieldType.boolean),
  .methodLink "HistoryJudgeLaw" 65 ⟨"HistoryJudge", "edges", "(II)I"⟩,
  .instanceMethod ⟨"HistoryJudge", "edges", "(II)I"⟩,
  .selects "HistoryJudge" ⟨"HistoryJudge", "edges", "(II)I"⟩ ⟨"HistoryJudge", "edges", "(II)I"⟩,
  .code ⟨"HistoryJudge", "edges", "(II)I"⟩ prog_1_method_8_code 3 (some FieldType.int),
  .methodLink "HistoryJudge" 93 ⟨"HistoryJudge$Graph", "draw", "(LHistoryJudge$History;)V"⟩,
  .instanceMethod ⟨"HistoryJudge$Graph", "draw", "(LHistoryJudge$History;)V"⟩,
  .selects "HistoryJudge$Graph" ⟨"HistoryJudge$Graph", "draw", "(LHistoryJudge$History;)V"⟩ ⟨"HistoryJudge$Graph", "draw", "(LHistoryJudge$History;)V"⟩,
  .code ⟨"HistoryJudge$Graph", "draw", "(LHistoryJudge$History;)V"⟩ prog_3_method_2_code 3 none,
  .methodLink "HistoryJudge$Graph" 21 ⟨"java/util/Arrays", "fill", "([II)V"⟩,
  .methodLink "HistoryJudge$Graph" 27 ⟨"HistoryJudge$Graph", "drawOrder", "(LHistoryJudge$History;I)V"⟩,
  .instanceMethod ⟨"HistoryJudge$Graph", "drawOrder", "(LHistoryJudge$History;I)V"⟩,
  .code ⟨"HistoryJudge$Graph", "drawOrder", "(LHistoryJudge$History;I)V"⟩ prog_3_method_3_code 5 none,
  .methodLink "HistoryJudge$Graph" 57 ⟨"HistoryJudge$Graph", "join", "([III)V"⟩,
  .static ⟨"HistoryJudge$Graph", "join", "([III)V"⟩,
  .code ⟨"HistoryJudge$Graph", "join", "([III)V"⟩ prog_3_method_5_code 3 none,
  .static ⟨"HistoryJudge", "only", "(I)I"⟩,
  .code ⟨"HistoryJudge", "only", "(I)I"⟩ prog_1_method_19_code 1 (some FieldType.int),
  .methodLink "HistoryJudge$Graph" 40 ⟨"HistoryJudge$History", "isCommitted", "(I)Z"⟩,
  .instanceMethod ⟨"HistoryJudge$History", "isCommitted", "(I)Z"⟩,
  .selects "HistoryJudge$History" ⟨"HistoryJudge$History", "isCommitted", "(I)Z"⟩ ⟨"HistoryJudge$History", "isCommitted", "(I)Z"⟩,
  .code ⟨"HistoryJudge$History", "isCommitted", "(I)Z"⟩ prog_4_method_4_code 2 (some FieldType.boolean),
  .methodLink "HistoryJudge$Graph" 44 ⟨"HistoryJudge$Graph", "drawRead", "(LHistoryJudge$History;I)V"⟩,
  .instanceMethod ⟨"HistoryJudge$Graph", "drawRead", "(LHistoryJudge$History;I)V"⟩,
  .code ⟨"HistoryJudge$Graph", "drawRead", "(LHistoryJudge$History;I)V"⟩ prog_3_method_4_code 6 none,
  .methodLink "HistoryJudge$Graph" 67 ⟨"HistoryJudge$History", "writerOfNext", "(II)I"⟩,
  .instanceMethod ⟨"HistoryJudge$History", "writerOfNext", "(II)I"⟩,
  .selects "HistoryJudge$History" ⟨"HistoryJudge$History", "writerOfNext", "(II)I"⟩ ⟨"HistoryJudge$History", "writerOfNext", "(II)I"⟩,
  .code ⟨"HistoryJudge$History", "writerOfNext", "(II)I"⟩ prog_4_method_12_code 4 (some FieldType.int),
  .methodLink "HistoryJudge$History" 68 ⟨"HistoryJudge$History", "placeBehind", "(II)I"⟩,
  .instanceMethod ⟨"HistoryJudge$History", "placeBehind", "(II)I"⟩,
  .code ⟨"HistoryJudge$History", "placeBehind", "(II)I"⟩ prog_4_method_13_code 4 (some FieldType.int),
  .methodLink "HistoryJudge" 100 ⟨"HistoryJudge", "has", "(II)Z"⟩,
  .static ⟨"HistoryJudge", "has", "(II)Z"⟩,
  .code ⟨"HistoryJudge", "has", "(II)Z"⟩ prog_1_method_20_code 2 (some FieldType.boolean),
  .methodLink "HistoryJudge" 151 ⟨"HistoryJudge", "only", "(I)I"⟩,
  .methodLink "HistoryJudgeLaw" 69 ⟨"HistoryJudge", "flaws", "()I"⟩,
  .instanceMethod ⟨"HistoryJudge", "flaws", "()I"⟩,
  .selects "HistoryJudge" ⟨"HistoryJudge", "flaws", "()I"⟩ ⟨"HistoryJudge", "flaws", "()I"⟩,
  .code ⟨"HistoryJudge", "flaws", "()I"⟩ prog_1_method_9_code 1 (some FieldType.int),
  .methodLink "HistoryJudge" 109 ⟨"HistoryJudge$CycleSearch", "find", "(LHistoryJudge$Graph;I)I"⟩,
  .instanceMethod ⟨"HistoryJudge$CycleSearch", "find", "(LHistoryJudge$Graph;I)I"⟩,
  .selects "HistoryJudge$CycleSearch" ⟨"HistoryJudge$CycleSearch", "find", "(LHistoryJudge$Graph;I)I"⟩ ⟨"HistoryJudge$CycleSearch", "find", "(LHistoryJudge$Graph;I)I"⟩,
  .code ⟨"HistoryJudge$CycleSearch", "find", "(LHistoryJudge$Graph;I)I"⟩ prog_2_method_2_code 8 (some FieldType.int),
  .methodLink "HistoryJudge$CycleSearch" 27 ⟨"HistoryJudge$CycleSearch", "sortEdges", "(LHistoryJudge$Graph;I)V"⟩,
  .instanceMethod ⟨"HistoryJudge$CycleSearch", "sortEdges", "(LHistoryJudge$Graph;I)V"⟩,
  .code ⟨"HistoryJudge$CycleSearch", "sortEdges", "(LHistoryJudge$Graph;I)V"⟩ prog_2_method_3_code 6 none,
  .methodLink "HistoryJudge$CycleSearch" 31 ⟨"HistoryJudge$CycleSearch", "measure", "(I)V"⟩,
  .instanceMethod ⟨"HistoryJudge$CycleSearch", "measure", "(I)V"⟩]
def jW4 : List Cond := [
  .code ⟨"HistoryJudge$CycleSearch", "measure", "(I)V"⟩ prog_2_method_4_code 3 none,
  .methodLink "HistoryJudge$CycleSearch" 58 ⟨"HistoryJudge$CycleSearch", "leadingInto", "([II)I"⟩,
  .static ⟨"HistoryJudge$CycleSearch", "leadingInto", "([II)I"⟩,
  .code ⟨"HistoryJudge$CycleSearch", "leadingInto", "([II)I"⟩ prog_2_method_5_code 4 (some FieldType.int),
  .methodLink "HistoryJudge$CycleSearch" 35 ⟨"HistoryJudge$CycleSearch", "shortest", "([II)I"⟩,
  .static ⟨"HistoryJudge$CycleSearch", "shortest", "([II)I"⟩,
  .code ⟨"HistoryJudge$CycleSearch", "shortest", "([II)I"⟩ prog_2_method_6_code 3 (some FieldType.int),
  .methodLink "HistoryJudge$CycleSearch" 39 ⟨"HistoryJudge$CycleSearch", "trace", "(IIZ)V"⟩,
  .instanceMethod ⟨"HistoryJudge$CycleSearch", "trace", "(IIZ)V"⟩,
  .code ⟨"HistoryJudge$CycleSearch", "trace", "(IIZ)V"⟩ prog_2_method_7_code 13 none,
  .static ⟨"HistoryJudge", "least", "(I)I"⟩,
  .code ⟨"HistoryJudge", "least", "(I)I"⟩ prog_1_method_21_code 2 (some FieldType.int),
  .methodLink "HistoryJudge" 113 ⟨"HistoryJudge$History", "hasAbortedRead", "()Z"⟩,
  .instanceMethod ⟨"HistoryJudge$History", "hasAbortedRead", "()Z"⟩,
  .selects "HistoryJudge$History" ⟨"HistoryJudge$History", "hasAbortedRead", "()Z"⟩ ⟨"HistoryJudge$History", "hasAbortedRead", "()Z"⟩,
  .code ⟨"HistoryJudge$History", "hasAbortedRead", "()Z"⟩ prog_4_method_14_code 2 (some FieldType.boolean),
  .methodLink "HistoryJudge$History" 72 ⟨"HistoryJudge$History", "isJudgedRead", "(I)Z"⟩,
  .instanceMethod ⟨"HistoryJudge$History", "isJudgedRead", "(I)Z"⟩,
  .code ⟨"HistoryJudge$History", "isJudgedRead", "(I)Z"⟩ prog_4_method_16_code 2 (some FieldType.boolean),
  .methodLink "HistoryJudge$History" 60 ⟨"HistoryJudge$History", "isCommitted", "(I)Z"⟩,
  .methodLink "HistoryJudge" 117 ⟨"HistoryJudge$History", "hasUnfinishedRead", "()Z"⟩,
  .instanceMethod ⟨"HistoryJudge$History", "hasUnfinishedRead", "()Z"⟩,
  .selects "HistoryJudge$History" ⟨"HistoryJudge$History", "hasUnfinishedRead", "()Z"⟩ ⟨"HistoryJudge$History", "hasUnfinishedRead", "()Z"⟩,
  .code ⟨"HistoryJudge$History", "hasUnfinishedRead", "()Z"⟩ prog_4_method_15_code 2 (some FieldType.boolean),
  .methodLink "HistoryJudge$History" 75 ⟨"HistoryJudge$History", "isOfAnotherCommitted", "(I)Z"⟩,
  .instanceMethod ⟨"HistoryJudge$History", "isOfAnotherCommitted", "(I)Z"⟩,
  .code ⟨"HistoryJudge$History", "isOfAnotherCommitted", "(I)Z"⟩ prog_4_method_17_code 3 (some FieldType.boolean),
  .methodLink "HistoryJudge$History" 78 ⟨"HistoryJudge$History", "isFinal", "(I)Z"⟩,
  .instanceMethod ⟨"HistoryJudge$History", "isFinal", "(I)Z"⟩,
  .selects "HistoryJudge$History" ⟨"HistoryJudge$History", "isFinal", "(I)Z"⟩ ⟨"HistoryJudge$History", "isFinal", "(I)Z"⟩,
  .code ⟨"HistoryJudge$History", "isFinal", "(I)Z"⟩ prog_4_method_11_code 2 (some FieldType.boolean),
  .methodLink "HistoryJudgeLaw" 73 ⟨"HistoryJudge", "level", "()I"⟩,
  .instanceMethod ⟨"HistoryJudge", "level", "()I"⟩,
  .selects "HistoryJudge" ⟨"HistoryJudge", "level", "()I"⟩ ⟨"HistoryJudge", "level", "()I"⟩,
  .code ⟨"HistoryJudge", "level", "()I"⟩ prog_1_method_10_code 2 (some FieldType.int),
  .methodLink "HistoryJudge" 120 ⟨"HistoryJudge", "flaws", "()I"⟩,
  .methodLink "HistoryJudgeLaw" 77 ⟨"HistoryJudge", "cycle", "(I)I"⟩,
  .instanceMethod ⟨"HistoryJudge", "cycle", "(I)I"⟩,
  .selects "HistoryJudge" ⟨"HistoryJudge", "cycle", "(I)I"⟩ ⟨"HistoryJudge", "cycle", "(I)I"⟩,
  .code ⟨"HistoryJudge", "cycle", "(I)I"⟩ prog_1_method_11_code 2 (some FieldType.int),
  .methodLink "HistoryJudgeLaw" 81 ⟨"HistoryJudge", "step", "(II)I"⟩,
  .instanceMethod ⟨"HistoryJudge", "step", "(II)I"⟩,
  .selects "HistoryJudge" ⟨"HistoryJudge", "step", "(II)I"⟩ ⟨"HistoryJudge", "step", "(II)I"⟩,
  .code ⟨"HistoryJudge", "step", "(II)I"⟩ prog_1_method_12_code 4 (some FieldType.int),
  .methodLink "HistoryJudge" 124 ⟨"HistoryJudge", "cycle", "(I)I"⟩,
  .methodLink "HistoryJudgeLaw" 85 ⟨"HistoryJudge", "serial", "()Z"⟩,
  .instanceMethod ⟨"HistoryJudge", "serial", "()Z"⟩,
  .selects "HistoryJudge" ⟨"HistoryJudge", "serial", "()Z"⟩ ⟨"HistoryJudge", "serial", "()Z"⟩,
  .code ⟨"HistoryJudge", "serial", "()Z"⟩ prog_1_method_13_code 1 (some FieldType.boolean),
  .methodLink "HistoryJudge" 131 ⟨"HistoryJudge$SerialSearch", "explore", "(LHistoryJudge$History;)V"⟩,
  .instanceMethod ⟨"HistoryJudge$SerialSearch", "explore", "(LHistoryJudge$History;)V"⟩,
  .selects "HistoryJudge$SerialSearch" ⟨"HistoryJudge$SerialSearch", "explore", "(LHistoryJudge$History;)V"⟩ ⟨"HistoryJudge$SerialSearch", "explore", "(LHistoryJudge$History;)V"⟩,
  .code ⟨"HistoryJudge$SerialSearch", "explore", "(LHistoryJudge$History;)V"⟩ prog_5_method_2_code 4 none,
  .methodLink "HistoryJudge$SerialSearch" 23 ⟨"HistoryJudge$SerialSearch", "takeReads", "(LHistoryJudge$History;)V"⟩,
  .instanceMethod ⟨"HistoryJudge$SerialSearch", "takeReads", "(LHistoryJudge$History;)V"⟩,
  .code ⟨"HistoryJudge$SerialSearch", "takeReads", "(LHistoryJudge$History;)V"⟩ prog_5_method_5_code 3 none,
  .methodLink "HistoryJudge$SerialSearch" 58 ⟨"HistoryJudge$History", "committedSet", "()I"⟩,
  .instanceMethod ⟨"HistoryJudge$History", "committedSet", "()I"⟩,
  .selects "HistoryJudge$History" ⟨"HistoryJudge$History", "committedSet", "()I"⟩ ⟨"HistoryJudge$History", "committedSet", "()I"⟩,
  .code ⟨"HistoryJudge$History", "committedSet", "()I"⟩ prog_4_method_9_code 3 (some FieldType.int)]
def jW5 : List Cond := [
  .methodLink "HistoryJudge$SerialSearch" 64 ⟨"java/util/Arrays", "fill", "([II)V"⟩,
  .methodLink "HistoryJudge$SerialSearch" 76 ⟨"HistoryJudge$History", "isCommitted", "(I)Z"⟩,
  .methodLink "HistoryJudge$SerialSearch" 79 ⟨"HistoryJudge$SerialSearch", "takeRead", "(LHistoryJudge$History;I)V"⟩,
  .instanceMethod ⟨"HistoryJudge$SerialSearch", "takeRead", "(LHistoryJudge$History;I)V"⟩,
  .code ⟨"HistoryJudge$SerialSearch", "takeRead", "(LHistoryJudge$History;I)V"⟩ prog_5_method_6_code 4 none,
  .methodLink "HistoryJudge$SerialSearch" 92 ⟨"HistoryJudge$SerialSearch", "takeFirstRead", "(LHistoryJudge$History;II)V"⟩,
  .instanceMethod ⟨"HistoryJudge$SerialSearch", "takeFirstRead", "(LHistoryJudge$History;II)V"⟩,
  .code ⟨"HistoryJudge$SerialSearch", "takeFirstRead", "(LHistoryJudge$History;II)V"⟩ prog_5_method_7_code 5 none,
  .methodLink "HistoryJudge$SerialSearch" 109 ⟨"HistoryJudge$History", "hasWritten", "(II)Z"⟩,
  .instanceMethod ⟨"HistoryJudge$History", "hasWritten", "(II)Z"⟩,
  .selects "HistoryJudge$History" ⟨"HistoryJudge$History", "hasWritten", "(II)Z"⟩ ⟨"HistoryJudge$History", "hasWritten", "(II)Z"⟩,
  .code ⟨"HistoryJudge$History", "hasWritten", "(II)Z"⟩ prog_4_method_10_code 3 (some FieldType.boolean),
  .methodLink "HistoryJudge$SerialSearch" 99 ⟨"HistoryJudge$History", "isFinal", "(I)Z"⟩,
  .methodLink "HistoryJudge$SerialSearch" 102 ⟨"HistoryJudge$SerialSearch", "takeForeignRead", "(LHistoryJudge$History;II)V"⟩,
  .instanceMethod ⟨"HistoryJudge$SerialSearch", "takeForeignRead", "(LHistoryJudge$History;II)V"⟩,
  .code ⟨"HistoryJudge$SerialSearch", "takeForeignRead", "(LHistoryJudge$History;II)V"⟩ prog_5_method_8_code 7 none,
  .methodLink "HistoryJudge$SerialSearch" 35 ⟨"HistoryJudge$SerialSearch", "followers", "(I)I"⟩,
  .instanceMethod ⟨"HistoryJudge$SerialSearch", "followers", "(I)I"⟩,
  .code ⟨"HistoryJudge$SerialSearch", "followers", "(I)I"⟩ prog_5_method_9_code 5 (some FieldType.int),
  .methodLink "HistoryJudge$SerialSearch" 112 ⟨"HistoryJudge$SerialSearch", "mayFollow", "(II)Z"⟩,
  .instanceMethod ⟨"HistoryJudge$SerialSearch", "mayFollow", "(II)Z"⟩,
  .code ⟨"HistoryJudge$SerialSearch", "mayFollow", "(II)Z"⟩ prog_5_method_10_code 4 (some FieldType.boolean),
  .methodLink "HistoryJudge$SerialSearch" 39 ⟨"HistoryJudge$SerialSearch", "canBeEnded", "(I)Z"⟩,
  .instanceMethod ⟨"HistoryJudge$SerialSearch", "canBeEnded", "(I)Z"⟩,
  .code ⟨"HistoryJudge$SerialSearch", "canBeEnded", "(I)Z"⟩ prog_5_method_11_code 2 (some FieldType.boolean),
  .methodLink "HistoryJudge" 134 ⟨"HistoryJudge$SerialSearch", "isPossible", "()Z"⟩,
  .instanceMethod ⟨"HistoryJudge$SerialSearch", "isPossible", "()Z"⟩,
  .selects "HistoryJudge$SerialSearch" ⟨"HistoryJudge$SerialSearch", "isPossible", "()Z"⟩ ⟨"HistoryJudge$SerialSearch", "isPossible", "()Z"⟩,
  .code ⟨"HistoryJudge$SerialSearch", "isPossible", "()Z"⟩ prog_5_method_3_code 1 (some FieldType.boolean),
  .methodLink "HistoryJudgeLaw" 90 ⟨"HistoryJudge", "place", "(I)I"⟩,
  .instanceMethod ⟨"HistoryJudge", "place", "(I)I"⟩,
  .selects "HistoryJudge" ⟨"HistoryJudge", "place", "(I)I"⟩ ⟨"HistoryJudge", "place", "(I)I"⟩,
  .code ⟨"HistoryJudge", "place", "(I)I"⟩ prog_1_method_14_code 2 (some FieldType.int),
  .methodLink "HistoryJudge" 137 ⟨"HistoryJudge$SerialSearch", "transactionAt", "(I)I"⟩,
  .instanceMethod ⟨"HistoryJudge$SerialSearch", "transactionAt", "(I)I"⟩,
  .selects "HistoryJudge$SerialSearch" ⟨"HistoryJudge$SerialSearch", "transactionAt", "(I)I"⟩ ⟨"HistoryJudge$SerialSearch", "transactionAt", "(I)I"⟩,
  .code ⟨"HistoryJudge$SerialSearch", "transactionAt", "(I)I"⟩ prog_5_method_4_code 4 (some FieldType.int),
  .methodLink "HistoryJudge$SerialSearch" 43 ⟨"HistoryJudge$SerialSearch", "isPossible", "()Z"⟩,
  .methodLink "HistoryJudge$SerialSearch" 47 ⟨"java/lang/Integer", "bitCount", "(I)I"⟩,
  .static ⟨"java/lang/Integer", "bitCount", "(I)I"⟩,
  .code ⟨"java/lang/Integer", "bitCount", "(I)I"⟩ prog_11_method_49_code 1 (some FieldType.int),
  .constant "java/lang/Integer" 265 (1431655765 : Int32),
  .constant "java/lang/Integer" 266 (858993459 : Int32),
  .constant "java/lang/Integer" 267 (252645135 : Int32),
  .methodLink "HistoryJudgeLaw" 94 ⟨"HistoryJudge", "beginnings", "()I"⟩,
  .instanceMethod ⟨"HistoryJudge", "beginnings", "()I"⟩,
  .selects "HistoryJudge" ⟨"HistoryJudge", "beginnings", "()I"⟩ ⟨"HistoryJudge", "beginnings", "()I"⟩,
  .code ⟨"HistoryJudge", "beginnings", "()I"⟩ prog_1_method_15_code 1 (some FieldType.int),
  .methodLink "HistoryJudge" 143 ⟨"java/lang/Integer", "bitCount", "(I)I"⟩,
  .methodLink "HistoryJudgeLaw" 98 ⟨"HistoryJudge", "clear", "()I"⟩,
  .instanceMethod ⟨"HistoryJudge", "clear", "()I"⟩,
  .selects "HistoryJudge" ⟨"HistoryJudge", "clear", "()I"⟩ ⟨"HistoryJudge", "clear", "()I"⟩,
  .code ⟨"HistoryJudge", "clear", "()I"⟩ prog_1_method_16_code 2 (some FieldType.int),
  .methodLink "HistoryJudge" 148 ⟨"HistoryJudge$History", "reset", "()V"⟩,
  .methodLink "HistoryJudgeLaw" 33 ⟨"HistoryJudgeLaw", "write", "(LHistoryJudge;II[J)I"⟩,
  .static ⟨"HistoryJudgeLaw", "write", "(LHistoryJudge;II[J)I"⟩,
  .classLink "HistoryJudgeLaw" 13 "java/lang/IllegalArgumentException",
  .classLink "HistoryJudgeLaw" 15 "java/lang/IllegalStateException",
  .classLink "HistoryJudgeLaw" 17 "java/lang/UnsupportedOperationException",
  .methodLink "HistoryJudgeLaw" 7 ⟨"HistoryJudge", "write", "(II)I"⟩]
def jW6 : List Cond := [
  .instanceMethod ⟨"HistoryJudge", "write", "(II)I"⟩,
  .selects "HistoryJudge" ⟨"HistoryJudge", "write", "(II)I"⟩ ⟨"HistoryJudge", "write", "(II)I"⟩,
  .code ⟨"HistoryJudge", "write", "(II)I"⟩ prog_1_method_2_code 3 (some FieldType.int),
  .classLink "HistoryJudge" 44 "java/lang/IllegalArgumentException",
  .instantiable "java/lang/IllegalArgumentException" 6,
  .selects "java/lang/IllegalArgumentException" ⟨"java/lang/Throwable", "fillInStackTrace", "(I)Ljava/lang/Throwable;"⟩ ⟨"java/lang/Throwable", "fillInStackTrace", "(I)Ljava/lang/Throwable;"⟩,
  .selects "java/lang/IllegalArgumentException" ⟨"java/lang/Throwable", "fillInStackTrace", "()Ljava/lang/Throwable;"⟩ ⟨"java/lang/Throwable", "fillInStackTrace", "()Ljava/lang/Throwable;"⟩,
  .lays "java/lang/IllegalArgumentException" "java/lang/Throwable" "cause" "Ljava/lang/Throwable;",
  .lays "java/lang/Throwable" "java/lang/Throwable" "cause" "Ljava/lang/Throwable;",
  .lays "java/lang/IllegalArgumentException" "java/lang/Throwable" "stackTrace" "[Ljava/lang/StackTraceElement;",
  .lays "java/lang/Throwable" "java/lang/Throwable" "stackTrace" "[Ljava/lang/StackTraceElement;",
  .lays "java/lang/IllegalArgumentException" "java/lang/Throwable" "suppressedExceptions" "Ljava/util/List;",
  .lays "java/lang/Throwable" "java/lang/Throwable" "suppressedExceptions" "Ljava/util/List;",
  .lays "java/lang/IllegalArgumentException" "java/lang/Throwable" "detailMessage" "Ljava/lang/String;",
  .lays "java/lang/Throwable" "java/lang/Throwable" "detailMessage" "Ljava/lang/String;",
  .lays "java/lang/IllegalArgumentException" "java/lang/Throwable" "backtrace" "Ljava/lang/Object;",
  .lays "java/lang/Throwable" "java/lang/Throwable" "backtrace" "Ljava/lang/Object;",
  .fieldLink "java/lang/Throwable" 198 "java/lang/Throwable" "backtrace" "Ljava/lang/Object;",
  .instanceMethod ⟨"java/lang/Throwable", "<init>", "()V"⟩,
  .code ⟨"java/lang/Throwable", "<init>", "()V"⟩ prog_13_method_1_code 1 none,
  .methodLink "java/lang/Throwable" 1 ⟨"java/lang/Object", "<init>", "()V"⟩,
  .fieldLink "java/lang/Throwable" 13 "java/lang/Throwable" "UNASSIGNED_STACK" "[Ljava/lang/StackTraceElement;",
  .fieldLink "java/lang/Throwable" 20 "java/lang/Throwable" "SUPPRESSED_SENTINEL" "Ljava/util/List;",
  .methodLink "java/lang/Throwable" 27 ⟨"java/lang/Throwable", "fillInStackTrace", "()Ljava/lang/Throwable;"⟩,
  .instanceMethod ⟨"java/lang/Throwable", "fillInStackTrace", "()Ljava/lang/Throwable;"⟩,
  .selects "java/lang/IllegalStateException" ⟨"java/lang/Throwable", "fillInStackTrace", "()Ljava/lang/Throwable;"⟩ ⟨"java/lang/Throwable", "fillInStackTrace", "()Ljava/lang/Throwable;"⟩,
  .selects "java/lang/UnsupportedOperationException" ⟨"java/lang/Throwable", "fillInStackTrace", "()Ljava/lang/Throwable;"⟩ ⟨"java/lang/Throwable", "fillInStackTrace", "()Ljava/lang/Throwable;"⟩,
  .selects "java/util/NoSuchElementException" ⟨"java/lang/Throwable", "fillInStackTrace", "()Ljava/lang/Throwable;"⟩ ⟨"java/lang/Throwable", "fillInStackTrace", "()Ljava/lang/Throwable;"⟩,
  .methodLink "java/lang/Throwable" 202 ⟨"java/lang/Throwable", "fillInStackTrace", "(I)Ljava/lang/Throwable;"⟩,
  .instanceMethod ⟨"java/lang/Throwable", "fillInStackTrace", "(I)Ljava/lang/Throwable;"⟩,
  .instantiable "java/lang/Throwable" 6,
  .methodLink "HistoryJudge" 46 ⟨"java/lang/IllegalArgumentException", "<init>", "()V"⟩,
  .instanceMethod ⟨"java/lang/IllegalArgumentException", "<init>", "()V"⟩,
  .code ⟨"java/lang/IllegalArgumentException", "<init>", "()V"⟩ prog_9_method_1_code 1 none,
  .methodLink "java/lang/IllegalArgumentException" 1 ⟨"java/lang/RuntimeException", "<init>", "()V"⟩,
  .instanceMethod ⟨"java/lang/RuntimeException", "<init>", "()V"⟩,
  .code ⟨"java/lang/RuntimeException", "<init>", "()V"⟩ prog_12_method_1_code 1 none,
  .methodLink "java/lang/RuntimeException" 1 ⟨"java/lang/Exception", "<init>", "()V"⟩,
  .instanceMethod ⟨"java/lang/Exception", "<init>", "()V"⟩,
  .code ⟨"java/lang/Exception", "<init>", "()V"⟩ prog_8_method_1_code 1 none,
  .methodLink "java/lang/Exception" 1 ⟨"java/lang/Throwable", "<init>", "()V"⟩,
  .fieldLink "java/lang/Throwable" 7 "java/lang/Throwable" "cause" "Ljava/lang/Throwable;",
  .fieldLink "java/lang/Throwable" 17 "java/lang/Throwable" "stackTrace" "[Ljava/lang/StackTraceElement;",
  .fieldLink "java/lang/Throwable" 24 "java/lang/Throwable" "suppressedExceptions" "Ljava/util/List;",
  .lays "java/lang/IllegalArgumentException" "java/lang/Throwable" "depth" "I",
  .methodLink "HistoryJudge" 47 ⟨"HistoryJudge$History", "hasEnded", "(I)Z"⟩,
  .instanceMethod ⟨"HistoryJudge$History", "hasEnded", "(I)Z"⟩,
  .selects "HistoryJudge$History" ⟨"HistoryJudge$History", "hasEnded", "(I)Z"⟩ ⟨"HistoryJudge$History", "hasEnded", "(I)Z"⟩,
  .code ⟨"HistoryJudge$History", "hasEnded", "(I)Z"⟩ prog_4_method_3_code 2 (some FieldType.boolean),
  .classLink "HistoryJudge" 50 "java/lang/IllegalStateException",
  .instantiable "java/lang/IllegalStateException" 6,
  .selects "java/lang/IllegalStateException" ⟨"java/lang/Throwable", "fillInStackTrace", "(I)Ljava/lang/Throwable;"⟩ ⟨"java/lang/Throwable", "fillInStackTrace", "(I)Ljava/lang/Throwable;"⟩,
  .lays "java/lang/IllegalStateException" "java/lang/Throwable" "cause" "Ljava/lang/Throwable;",
  .lays "java/lang/IllegalStateException" "java/lang/Throwable" "stackTrace" "[Ljava/lang/StackTraceElement;",
  .lays "java/lang/IllegalStateException" "java/lang/Throwable" "suppressedExceptions" "Ljava/util/List;",
  .lays "java/lang/IllegalStateException" "java/lang/Throwable" "detailMessage" "Ljava/lang/String;",
  .lays "java/lang/IllegalStateException" "java/lang/Throwable" "backtrace" "Ljava/lang/Object;",
  .methodLink "HistoryJudge" 52 ⟨"java/lang/IllegalStateException", "<init>", "()V"⟩,
  .instanceMethod ⟨"java/lang/IllegalStateException", "<init>", "()V"⟩,
  .code ⟨"java/lang/IllegalStateException", "<init>", "()V"⟩ prog_10_method_1_code 1 none]
def jW7 : List Cond := [
  .methodLink "java/lang/IllegalStateException" 1 ⟨"java/lang/RuntimeException", "<init>", "()V"⟩,
  .lays "java/lang/IllegalStateException" "java/lang/Throwable" "depth" "I",
  .classLink "HistoryJudge" 57 "java/lang/UnsupportedOperationException",
  .instantiable "java/lang/UnsupportedOperationException" 6,
  .selects "java/lang/UnsupportedOperationException" ⟨"java/lang/Throwable", "fillInStackTrace", "(I)Ljava/lang/Throwable;"⟩ ⟨"java/lang/Throwable", "fillInStackTrace", "(I)Ljava/lang/Throwable;"⟩,
  .lays "java/lang/UnsupportedOperationException" "java/lang/Throwable" "cause" "Ljava/lang/Throwable;",
  .lays "java/lang/UnsupportedOperationException" "java/lang/Throwable" "stackTrace" "[Ljava/lang/StackTraceElement;",
  .lays "java/lang/UnsupportedOperationException" "java/lang/Throwable" "suppressedExceptions" "Ljava/util/List;",
  .lays "java/lang/UnsupportedOperationException" "java/lang/Throwable" "detailMessage" "Ljava/lang/String;",
  .lays "java/lang/UnsupportedOperationException" "java/lang/Throwable" "backtrace" "Ljava/lang/Object;",
  .methodLink "HistoryJudge" 59 ⟨"java/lang/UnsupportedOperationException", "<init>", "()V"⟩,
  .instanceMethod ⟨"java/lang/UnsupportedOperationException", "<init>", "()V"⟩,
  .code ⟨"java/lang/UnsupportedOperationException", "<init>", "()V"⟩ prog_14_method_1_code 1 none,
  .methodLink "java/lang/UnsupportedOperationException" 1 ⟨"java/lang/RuntimeException", "<init>", "()V"⟩,
  .lays "java/lang/UnsupportedOperationException" "java/lang/Throwable" "depth" "I",
  .methodLink "HistoryJudge" 60 ⟨"HistoryJudge$History", "addVersion", "(II)I"⟩,
  .instanceMethod ⟨"HistoryJudge$History", "addVersion", "(II)I"⟩,
  .selects "HistoryJudge$History" ⟨"HistoryJudge$History", "addVersion", "(II)I"⟩ ⟨"HistoryJudge$History", "addVersion", "(II)I"⟩,
  .code ⟨"HistoryJudge$History", "addVersion", "(II)I"⟩ prog_4_method_6_code 4 (some FieldType.int),
  .methodLink "HistoryJudgeLaw" 43 ⟨"HistoryJudgeLaw", "read", "(LHistoryJudge;III[J)I"⟩,
  .static ⟨"HistoryJudgeLaw", "read", "(LHistoryJudge;III[J)I"⟩,
  .classLink "HistoryJudgeLaw" 23 "java/util/NoSuchElementException",
  .methodLink "HistoryJudgeLaw" 19 ⟨"HistoryJudge", "read", "(III)I"⟩,
  .instanceMethod ⟨"HistoryJudge", "read", "(III)I"⟩,
  .selects "HistoryJudge" ⟨"HistoryJudge", "read", "(III)I"⟩ ⟨"HistoryJudge", "read", "(III)I"⟩,
  .code ⟨"HistoryJudge", "read", "(III)I"⟩ prog_1_method_3_code 4 (some FieldType.int),
  .methodLink "HistoryJudge" 64 ⟨"HistoryJudge$History", "hasVersion", "(II)Z"⟩,
  .instanceMethod ⟨"HistoryJudge$History", "hasVersion", "(II)Z"⟩,
  .selects "HistoryJudge$History" ⟨"HistoryJudge$History", "hasVersion", "(II)Z"⟩ ⟨"HistoryJudge$History", "hasVersion", "(II)Z"⟩,
  .code ⟨"HistoryJudge$History", "hasVersion", "(II)Z"⟩ prog_4_method_5_code 3 (some FieldType.boolean),
  .classLink "HistoryJudge" 68 "java/util/NoSuchElementException",
  .instantiable "java/util/NoSuchElementException" 6,
  .selects "java/util/NoSuchElementException" ⟨"java/lang/Throwable", "fillInStackTrace", "(I)Ljava/lang/Throwable;"⟩ ⟨"java/lang/Throwable", "fillInStackTrace", "(I)Ljava/lang/Throwable;"⟩,
  .lays "java/util/NoSuchElementException" "java/lang/Throwable" "cause" "Ljava/lang/Throwable;",
  .lays "java/util/NoSuchElementException" "java/lang/Throwable" "stackTrace" "[Ljava/lang/StackTraceElement;",
  .lays "java/util/NoSuchElementException" "java/lang/Throwable" "suppressedExceptions" "Ljava/util/List;",
  .lays "java/util/NoSuchElementException" "java/lang/Throwable" "detailMessage" "Ljava/lang/String;",
  .lays "java/util/NoSuchElementException" "java/lang/Throwable" "backtrace" "Ljava/lang/Object;",
  .methodLink "HistoryJudge" 70 ⟨"java/util/NoSuchElementException", "<init>", "()V"⟩,
  .instanceMethod ⟨"java/util/NoSuchElementException", "<init>", "()V"⟩,
  .code ⟨"java/util/NoSuchElementException", "<init>", "()V"⟩ prog_16_method_1_code 1 none,
  .methodLink "java/util/NoSuchElementException" 1 ⟨"java/lang/RuntimeException", "<init>", "()V"⟩,
  .lays "java/util/NoSuchElementException" "java/lang/Throwable" "depth" "I",
  .methodLink "HistoryJudge" 74 ⟨"HistoryJudge$History", "addRead", "(III)I"⟩,
  .instanceMethod ⟨"HistoryJudge$History", "addRead", "(III)I"⟩,
  .selects "HistoryJudge$History" ⟨"HistoryJudge$History", "addRead", "(III)I"⟩ ⟨"HistoryJudge$History", "addRead", "(III)I"⟩,
  .code ⟨"HistoryJudge$History", "addRead", "(III)I"⟩ prog_4_method_7_code 4 (some FieldType.int),
  .methodLink "HistoryJudgeLaw" 47 ⟨"HistoryJudgeLaw", "end", "(LHistoryJudge;IZ)I"⟩,
  .static ⟨"HistoryJudgeLaw", "end", "(LHistoryJudge;IZ)I"⟩,
  .methodLink "HistoryJudgeLaw" 25 ⟨"HistoryJudge", "end", "(IZ)V"⟩,
  .instanceMethod ⟨"HistoryJudge", "end", "(IZ)V"⟩,
  .selects "HistoryJudge" ⟨"HistoryJudge", "end", "(IZ)V"⟩ ⟨"HistoryJudge", "end", "(IZ)V"⟩,
  .code ⟨"HistoryJudge", "end", "(IZ)V"⟩ prog_1_method_4_code 3 none,
  .methodLink "HistoryJudge" 82 ⟨"HistoryJudge$History", "commit", "(I)V"⟩,
  .instanceMethod ⟨"HistoryJudge$History", "commit", "(I)V"⟩,
  .selects "HistoryJudge$History" ⟨"HistoryJudge$History", "commit", "(I)V"⟩ ⟨"HistoryJudge$History", "commit", "(I)V"⟩,
  .code ⟨"HistoryJudge$History", "commit", "(I)V"⟩ prog_4_method_8_code 3 none,
  .classLink "HistoryJudgeLaw" 30 "HistoryJudgeModel",
  .instantiable "HistoryJudgeModel" 18,
  .methodLink "HistoryJudgeLaw" 32 ⟨"HistoryJudgeModel", "<init>", "()V"⟩]
def jW8 : List Cond := [
  .instanceMethod ⟨"HistoryJudgeModel", "<init>", "()V"⟩,
  .code ⟨"HistoryJudgeModel", "<init>", "()V"⟩ prog_7_method_1_code 1 none,
  .methodLink "HistoryJudgeModel" 1 ⟨"java/lang/Object", "<init>", "()V"⟩,
  .fieldLink "HistoryJudgeModel" 50 "HistoryJudgeModel" "code" "I",
  .fieldLink "HistoryJudgeModel" 7 "HistoryJudgeModel" "states" "[I",
  .fieldLink "HistoryJudgeModel" 64 "HistoryJudgeModel" "versions" "I",
  .fieldLink "HistoryJudgeModel" 13 "HistoryJudgeModel" "writer" "[I",
  .fieldLink "HistoryJudgeModel" 16 "HistoryJudgeModel" "itemOf" "[I",
  .fieldLink "HistoryJudgeModel" 75 "HistoryJudgeModel" "reads" "I",
  .fieldLink "HistoryJudgeModel" 54 "HistoryJudgeModel" "events" "I",
  .fieldLink "HistoryJudgeModel" 19 "HistoryJudgeModel" "who" "[I",
  .fieldLink "HistoryJudgeModel" 22 "HistoryJudgeModel" "what" "[I",
  .fieldLink "HistoryJudgeModel" 25 "HistoryJudgeModel" "which" "[I",
  .fieldLink "HistoryJudgeModel" 28 "HistoryJudgeModel" "writes" "[Z",
  .fieldLink "HistoryJudgeModel" 32 "HistoryJudgeModel" "lengths" "[I",
  .fieldLink "HistoryJudgeModel" 35 "HistoryJudgeModel" "order" "[I",
  .fieldLink "HistoryJudgeModel" 38 "HistoryJudgeModel" "drawn" "[I",
  .fieldLink "HistoryJudgeModel" 41 "HistoryJudgeModel" "row" "[I",
  .fieldLink "HistoryJudgeModel" 44 "HistoryJudgeModel" "tries" "[I",
  .fieldLink "HistoryJudgeModel" 133 "HistoryJudgeModel" "size" "I",
  .fieldLink "HistoryJudgeModel" 47 "HistoryJudgeModel" "latest" "[I",
  .lays "HistoryJudgeModel" "HistoryJudgeModel" "code" "I",
  .laysFinal "HistoryJudgeModel" "HistoryJudgeModel" "states" "[I",
  .lays "HistoryJudgeModel" "HistoryJudgeModel" "versions" "I",
  .laysFinal "HistoryJudgeModel" "HistoryJudgeModel" "writer" "[I",
  .laysFinal "HistoryJudgeModel" "HistoryJudgeModel" "itemOf" "[I",
  .lays "HistoryJudgeModel" "HistoryJudgeModel" "reads" "I",
  .lays "HistoryJudgeModel" "HistoryJudgeModel" "events" "I",
  .laysFinal "HistoryJudgeModel" "HistoryJudgeModel" "who" "[I",
  .laysFinal "HistoryJudgeModel" "HistoryJudgeModel" "what" "[I",
  .laysFinal "HistoryJudgeModel" "HistoryJudgeModel" "which" "[I",
  .laysFinal "HistoryJudgeModel" "HistoryJudgeModel" "writes" "[Z",
  .laysFinal "HistoryJudgeModel" "HistoryJudgeModel" "lengths" "[I",
  .laysFinal "HistoryJudgeModel" "HistoryJudgeModel" "order" "[I",
  .laysFinal "HistoryJudgeModel" "HistoryJudgeModel" "drawn" "[I",
  .laysFinal "HistoryJudgeModel" "HistoryJudgeModel" "row" "[I",
  .laysFinal "HistoryJudgeModel" "HistoryJudgeModel" "tries" "[I",
  .lays "HistoryJudgeModel" "HistoryJudgeModel" "size" "I",
  .laysFinal "HistoryJudgeModel" "HistoryJudgeModel" "latest" "[I",
  .arrayClass FieldType.boolean,
  .methodLink "HistoryJudgeLaw" 39 ⟨"HistoryJudgeModel", "thrown", "()I"⟩,
  .instanceMethod ⟨"HistoryJudgeModel", "thrown", "()I"⟩,
  .selects "HistoryJudgeModel" ⟨"HistoryJudgeModel", "thrown", "()I"⟩ ⟨"HistoryJudgeModel", "thrown", "()I"⟩,
  .code ⟨"HistoryJudgeModel", "thrown", "()I"⟩ prog_7_method_2_code 1 (some FieldType.int),
  .methodLink "HistoryJudgeLaw" 38 ⟨"HistoryJudgeModel", "write", "(II)I"⟩,
  .instanceMethod ⟨"HistoryJudgeModel", "write", "(II)I"⟩,
  .selects "HistoryJudgeModel" ⟨"HistoryJudgeModel", "write", "(II)I"⟩ ⟨"HistoryJudgeModel", "write", "(II)I"⟩,
  .code ⟨"HistoryJudgeModel", "write", "(II)I"⟩ prog_7_method_6_code 3 (some FieldType.int),
  .methodLink "HistoryJudgeModel" 57 ⟨"HistoryJudgeModel", "isOne", "(I)Z"⟩,
  .static ⟨"HistoryJudgeModel", "isOne", "(I)Z"⟩,
  .code ⟨"HistoryJudgeModel", "isOne", "(I)Z"⟩ prog_7_method_4_code 1 (some FieldType.boolean),
  .methodLink "HistoryJudgeModel" 61 ⟨"HistoryJudgeModel", "isItem", "(I)Z"⟩,
  .static ⟨"HistoryJudgeModel", "isItem", "(I)Z"⟩,
  .code ⟨"HistoryJudgeModel", "isItem", "(I)Z"⟩ prog_7_method_3_code 1 (some FieldType.boolean),
  .methodLink "HistoryJudgeModel" 67 ⟨"HistoryJudgeModel", "note", "(IIIZ)V"⟩,
  .instanceMethod ⟨"HistoryJudgeModel", "note", "(IIIZ)V"⟩,
  .code ⟨"HistoryJudgeModel", "note", "(IIIZ)V"⟩ prog_7_method_5_code 5 none,
  .methodLink "HistoryJudgeLaw" 46 ⟨"HistoryJudgeModel", "read", "(III)I"⟩,
  .instanceMethod ⟨"HistoryJudgeModel", "read", "(III)I"⟩,
  .selects "HistoryJudgeModel" ⟨"HistoryJudgeModel", "read", "(III)I"⟩ ⟨"HistoryJudgeModel", "read", "(III)I"⟩]
def jW9 : List Cond := [
  .code ⟨"HistoryJudgeModel", "read", "(III)I"⟩ prog_7_method_8_code 4 (some FieldType.int),
  .methodLink "HistoryJudgeModel" 71 ⟨"HistoryJudgeModel", "isVersion", "(II)Z"⟩,
  .instanceMethod ⟨"HistoryJudgeModel", "isVersion", "(II)Z"⟩,
  .code ⟨"HistoryJudgeModel", "isVersion", "(II)Z"⟩ prog_7_method_7_code 3 (some FieldType.boolean),
  .methodLink "HistoryJudgeLaw" 50 ⟨"HistoryJudgeModel", "end", "(IZ)V"⟩,
  .instanceMethod ⟨"HistoryJudgeModel", "end", "(IZ)V"⟩,
  .selects "HistoryJudgeModel" ⟨"HistoryJudgeModel", "end", "(IZ)V"⟩ ⟨"HistoryJudgeModel", "end", "(IZ)V"⟩,
  .code ⟨"HistoryJudgeModel", "end", "(IZ)V"⟩ prog_7_method_10_code 5 none,
  .methodLink "HistoryJudgeModel" 78 ⟨"HistoryJudgeModel", "isFinal", "(I)Z"⟩,
  .instanceMethod ⟨"HistoryJudgeModel", "isFinal", "(I)Z"⟩,
  .code ⟨"HistoryJudgeModel", "isFinal", "(I)Z"⟩ prog_7_method_9_code 4 (some FieldType.boolean),
  .methodLink "HistoryJudgeLaw" 55 ⟨"HistoryJudgeModel", "state", "(I)I"⟩,
  .instanceMethod ⟨"HistoryJudgeModel", "state", "(I)I"⟩,
  .selects "HistoryJudgeModel" ⟨"HistoryJudgeModel", "state", "(I)I"⟩ ⟨"HistoryJudgeModel", "state", "(I)I"⟩,
  .code ⟨"HistoryJudgeModel", "state", "(I)I"⟩ prog_7_method_11_code 2 (some FieldType.int),
  .methodLink "HistoryJudgeLaw" 59 ⟨"HistoryJudgeModel", "version", "(II)I"⟩,
  .instanceMethod ⟨"HistoryJudgeModel", "version", "(II)I"⟩,
  .selects "HistoryJudgeModel" ⟨"HistoryJudgeModel", "version", "(II)I"⟩ ⟨"HistoryJudgeModel", "version", "(II)I"⟩,
  .code ⟨"HistoryJudgeModel", "version", "(II)I"⟩ prog_7_method_12_code 3 (some FieldType.int),
  .methodLink "HistoryJudgeLaw" 64 ⟨"HistoryJudgeModel", "exchange", "(II)Z"⟩,
  .instanceMethod ⟨"HistoryJudgeModel", "exchange", "(II)Z"⟩,
  .selects "HistoryJudgeModel" ⟨"HistoryJudgeModel", "exchange", "(II)Z"⟩ ⟨"HistoryJudgeModel", "exchange", "(II)Z"⟩,
  .code ⟨"HistoryJudgeModel", "exchange", "(II)Z"⟩ prog_7_method_13_code 4 (some FieldType.boolean),
  .methodLink "HistoryJudgeLaw" 101 ⟨"HistoryJudgeModel", "clear", "()I"⟩,
  .instanceMethod ⟨"HistoryJudgeModel", "clear", "()I"⟩,
  .selects "HistoryJudgeModel" ⟨"HistoryJudgeModel", "clear", "()I"⟩ ⟨"HistoryJudgeModel", "clear", "()I"⟩,
  .code ⟨"HistoryJudgeModel", "clear", "()I"⟩ prog_7_method_14_code 3 (some FieldType.int),
  .methodLink "HistoryJudgeLaw" 68 ⟨"HistoryJudgeModel", "edges", "(II)I"⟩,
  .instanceMethod ⟨"HistoryJudgeModel", "edges", "(II)I"⟩,
  .selects "HistoryJudgeModel" ⟨"HistoryJudgeModel", "edges", "(II)I"⟩ ⟨"HistoryJudgeModel", "edges", "(II)I"⟩,
  .code ⟨"HistoryJudgeModel", "edges", "(II)I"⟩ prog_7_method_21_code 3 (some FieldType.int),
  .methodLink "HistoryJudgeModel" 97 ⟨"HistoryJudgeModel", "edge", "(II)I"⟩,
  .instanceMethod ⟨"HistoryJudgeModel", "edge", "(II)I"⟩,
  .code ⟨"HistoryJudgeModel", "edge", "(II)I"⟩ prog_7_method_20_code 3 (some FieldType.int),
  .methodLink "HistoryJudgeModel" 85 ⟨"HistoryJudgeModel", "isCommitted", "(I)Z"⟩,
  .instanceMethod ⟨"HistoryJudgeModel", "isCommitted", "(I)Z"⟩,
  .code ⟨"HistoryJudgeModel", "isCommitted", "(I)Z"⟩ prog_7_method_15_code 2 (some FieldType.boolean),
  .methodLink "HistoryJudgeModel" 88 ⟨"HistoryJudgeModel", "follows", "(II)Z"⟩,
  .instanceMethod ⟨"HistoryJudgeModel", "follows", "(II)Z"⟩,
  .code ⟨"HistoryJudgeModel", "follows", "(II)Z"⟩ prog_7_method_17_code 6 (some FieldType.boolean),
  .methodLink "HistoryJudgeModel" 81 ⟨"HistoryJudgeModel", "nextOf", "(II)I"⟩,
  .instanceMethod ⟨"HistoryJudgeModel", "nextOf", "(II)I"⟩,
  .code ⟨"HistoryJudgeModel", "nextOf", "(II)I"⟩ prog_7_method_16_code 5 (some FieldType.int),
  .methodLink "HistoryJudgeModel" 91 ⟨"HistoryJudgeModel", "hasRead", "(II)Z"⟩,
  .instanceMethod ⟨"HistoryJudgeModel", "hasRead", "(II)Z"⟩,
  .code ⟨"HistoryJudgeModel", "hasRead", "(II)Z"⟩ prog_7_method_18_code 5 (some FieldType.boolean),
  .methodLink "HistoryJudgeModel" 94 ⟨"HistoryJudgeModel", "overtaken", "(II)Z"⟩,
  .instanceMethod ⟨"HistoryJudgeModel", "overtaken", "(II)Z"⟩,
  .code ⟨"HistoryJudgeModel", "overtaken", "(II)Z"⟩ prog_7_method_19_code 6 (some FieldType.boolean),
  .methodLink "HistoryJudgeLaw" 80 ⟨"HistoryJudgeModel", "cycle", "(I)I"⟩,
  .instanceMethod ⟨"HistoryJudgeModel", "cycle", "(I)I"⟩,
  .selects "HistoryJudgeModel" ⟨"HistoryJudgeModel", "cycle", "(I)I"⟩ ⟨"HistoryJudgeModel", "cycle", "(I)I"⟩,
  .code ⟨"HistoryJudgeModel", "cycle", "(I)I"⟩ prog_7_method_29_code 2 (some FieldType.int),
  .methodLink "HistoryJudgeModel" 120 ⟨"HistoryJudgeModel", "findCycle", "(I)I"⟩,
  .instanceMethod ⟨"HistoryJudgeModel", "findCycle", "(I)I"⟩,
  .code ⟨"HistoryJudgeModel", "findCycle", "(I)I"⟩ prog_7_method_28_code 3 (some FieldType.int),
  .methodLink "HistoryJudgeModel" 114 ⟨"HistoryJudgeModel", "draw", "()V"⟩,
  .instanceMethod ⟨"HistoryJudgeModel", "draw", "()V"⟩,
  .code ⟨"HistoryJudgeModel", "draw", "()V"⟩ prog_7_method_22_code 3 none,
  .methodLink "HistoryJudgeModel" 117 ⟨"HistoryJudgeModel", "tryRows", "(II)Z"⟩]
def jW10 : List Cond := [
  .instanceMethod ⟨"HistoryJudgeModel", "tryRows", "(II)Z"⟩,
  .code ⟨"HistoryJudgeModel", "tryRows", "(II)Z"⟩ prog_7_method_27_code 5 (some FieldType.boolean),
  .methodLink "HistoryJudgeModel" 107 ⟨"HistoryJudgeModel", "fits", "(III)Z"⟩,
  .instanceMethod ⟨"HistoryJudgeModel", "fits", "(III)Z"⟩,
  .code ⟨"HistoryJudgeModel", "fits", "(III)Z"⟩ prog_7_method_26_code 4 (some FieldType.boolean),
  .methodLink "HistoryJudgeModel" 104 ⟨"HistoryJudgeModel", "inRow", "(II)Z"⟩,
  .instanceMethod ⟨"HistoryJudgeModel", "inRow", "(II)Z"⟩,
  .code ⟨"HistoryJudgeModel", "inRow", "(II)Z"⟩ prog_7_method_24_code 5 (some FieldType.boolean),
  .methodLink "HistoryJudgeModel" 100 ⟨"HistoryJudgeModel", "mask", "(I)I"⟩,
  .static ⟨"HistoryJudgeModel", "mask", "(I)I"⟩,
  .code ⟨"HistoryJudgeModel", "mask", "(I)I"⟩ prog_7_method_23_code 1 (some FieldType.int),
  .methodLink "HistoryJudgeModel" 111 ⟨"HistoryJudgeModel", "closes", "(II)Z"⟩,
  .instanceMethod ⟨"HistoryJudgeModel", "closes", "(II)Z"⟩,
  .code ⟨"HistoryJudgeModel", "closes", "(II)Z"⟩ prog_7_method_25_code 7 (some FieldType.boolean),
  .methodLink "HistoryJudgeLaw" 84 ⟨"HistoryJudgeModel", "step", "(II)I"⟩,
  .instanceMethod ⟨"HistoryJudgeModel", "step", "(II)I"⟩,
  .selects "HistoryJudgeModel" ⟨"HistoryJudgeModel", "step", "(II)I"⟩ ⟨"HistoryJudgeModel", "step", "(II)I"⟩,
  .code ⟨"HistoryJudgeModel", "step", "(II)I"⟩ prog_7_method_30_code 4 (some FieldType.int),
  .methodLink "HistoryJudgeLaw" 72 ⟨"HistoryJudgeModel", "flaws", "()I"⟩,
  .instanceMethod ⟨"HistoryJudgeModel", "flaws", "()I"⟩,
  .selects "HistoryJudgeModel" ⟨"HistoryJudgeModel", "flaws", "()I"⟩ ⟨"HistoryJudgeModel", "flaws", "()I"⟩,
  .code ⟨"HistoryJudgeModel", "flaws", "()I"⟩ prog_7_method_33_code 1 (some FieldType.int),
  .methodLink "HistoryJudgeModel" 127 ⟨"HistoryJudgeModel", "allFlaws", "()I"⟩,
  .instanceMethod ⟨"HistoryJudgeModel", "allFlaws", "()I"⟩,
  .code ⟨"HistoryJudgeModel", "allFlaws", "()I"⟩ prog_7_method_32_code 5 (some FieldType.int),
  .methodLink "HistoryJudgeModel" 123 ⟨"HistoryJudgeModel", "readFlaws", "()I"⟩,
  .instanceMethod ⟨"HistoryJudgeModel", "readFlaws", "()I"⟩,
  .code ⟨"HistoryJudgeModel", "readFlaws", "()I"⟩ prog_7_method_31_code 7 (some FieldType.int),
  .methodLink "HistoryJudgeLaw" 76 ⟨"HistoryJudgeModel", "level", "()I"⟩,
  .instanceMethod ⟨"HistoryJudgeModel", "level", "()I"⟩,
  .selects "HistoryJudgeModel" ⟨"HistoryJudgeModel", "level", "()I"⟩ ⟨"HistoryJudgeModel", "level", "()I"⟩,
  .code ⟨"HistoryJudgeModel", "level", "()I"⟩ prog_7_method_34_code 2 (some FieldType.int),
  .methodLink "HistoryJudgeLaw" 89 ⟨"HistoryJudgeModel", "serial", "()Z"⟩,
  .instanceMethod ⟨"HistoryJudgeModel", "serial", "()Z"⟩,
  .selects "HistoryJudgeModel" ⟨"HistoryJudgeModel", "serial", "()Z"⟩ ⟨"HistoryJudgeModel", "serial", "()Z"⟩,
  .code ⟨"HistoryJudgeModel", "serial", "()Z"⟩ prog_7_method_38_code 1 (some FieldType.boolean),
  .methodLink "HistoryJudgeModel" 139 ⟨"HistoryJudgeModel", "tryOrders", "(II)Z"⟩,
  .instanceMethod ⟨"HistoryJudgeModel", "tryOrders", "(II)Z"⟩,
  .code ⟨"HistoryJudgeModel", "tryOrders", "(II)Z"⟩ prog_7_method_37_code 5 (some FieldType.boolean),
  .methodLink "HistoryJudgeModel" 130 ⟨"HistoryJudgeModel", "committed", "()I"⟩,
  .instanceMethod ⟨"HistoryJudgeModel", "committed", "()I"⟩,
  .code ⟨"HistoryJudgeModel", "committed", "()I"⟩ prog_7_method_35_code 3 (some FieldType.int),
  .methodLink "HistoryJudgeModel" 136 ⟨"HistoryJudgeModel", "runs", "(II)Z"⟩,
  .instanceMethod ⟨"HistoryJudgeModel", "runs", "(II)Z"⟩,
  .code ⟨"HistoryJudgeModel", "runs", "(II)Z"⟩ prog_7_method_36_code 5 (some FieldType.boolean),
  .methodLink "HistoryJudgeLaw" 93 ⟨"HistoryJudgeModel", "place", "(I)I"⟩,
  .instanceMethod ⟨"HistoryJudgeModel", "place", "(I)I"⟩,
  .selects "HistoryJudgeModel" ⟨"HistoryJudgeModel", "place", "(I)I"⟩ ⟨"HistoryJudgeModel", "place", "(I)I"⟩,
  .code ⟨"HistoryJudgeModel", "place", "(I)I"⟩ prog_7_method_39_code 3 (some FieldType.int),
  .methodLink "HistoryJudgeLaw" 97 ⟨"HistoryJudgeModel", "beginnings", "()I"⟩,
  .instanceMethod ⟨"HistoryJudgeModel", "beginnings", "()I"⟩,
  .selects "HistoryJudgeModel" ⟨"HistoryJudgeModel", "beginnings", "()I"⟩ ⟨"HistoryJudgeModel", "beginnings", "()I"⟩,
  .code ⟨"HistoryJudgeModel", "beginnings", "()I"⟩ prog_7_method_40_code 3 (some FieldType.int),
  .arrayClass FieldType.long,
  .codeWith ⟨"HistoryJudgeLaw", "write", "(LHistoryJudge;II[J)I"⟩ method_3_code 5 (some FieldType.int) [(0, 10, 13, 13), (0, 10, 17, 15), (0, 10, 21, 17)],
  .codeWith ⟨"HistoryJudgeLaw", "read", "(LHistoryJudge;III[J)I"⟩ method_4_code 6 (some FieldType.int) [(0, 12, 15, 13), (0, 12, 19, 23), (0, 12, 23, 15), (0, 12, 27, 17)],
  .codeWith ⟨"HistoryJudgeLaw", "end", "(LHistoryJudge;IZ)I"⟩ method_5_code 4 (some FieldType.int) [(0, 6, 9, 13), (0, 6, 12, 15)]]
def jW : List Cond := jW0 ++ (jW1 ++ (jW2 ++ (jW3 ++ (jW4 ++ (jW5 ++ (jW6 ++ (jW7 ++ (jW8 ++ (jW9 ++ (jW10))))))))))
theorem jW_all : jW.all goodWord = true := by decide +kernel
theorem jW_good : ∀ w ∈ jW, ((w.onTables && w.keeps) = true ∨ ∃ ty, w = .arrayClass ty) := fun w h => good_of_word (List.all_eq_true.mp jW_all w h)
theorem wl0 : (Cond.selects "HistoryJudge$Graph" ⟨"HistoryJudge$Graph", "drawOrder", "(LHistoryJudge$History;I)V"⟩ ⟨"HistoryJudge$Graph", "drawOrder", "(LHistoryJudge$History;I)V"⟩) ∈ jW := List.mem_of_getElem? (i := 0) (by decide +kernel)
theorem wl1 : (Cond.selects "HistoryJudge$Graph" ⟨"HistoryJudge$Graph", "drawRead", "(LHistoryJudge$History;I)V"⟩ ⟨"HistoryJudge$Graph", "drawRead", "(LHistoryJudge$History;I)V"⟩) ∈ jW := List.mem_of_getElem? (i := 1) (by decide +kernel)
theorem wl2 : (Cond.selects "HistoryJudge$History" ⟨"HistoryJudge$History", "placeBehind", "(II)I"⟩ ⟨"HistoryJudge$History", "placeBehind", "(II)I"⟩) ∈ jW := List.mem_of_getElem? (i := 2) (by decide +kernel)
theorem wl3 : (Cond.selects "HistoryJudge$CycleSearch" ⟨"HistoryJudge$CycleSearch", "sortEdges", "(LHistoryJudge$Graph;I)V"⟩ ⟨"HistoryJudge$CycleSearch", "sortEdges", "(LHistoryJudge$Graph;I)V"⟩) ∈ jW := List.mem_of_getElem? (i := 3) (by decide +kernel)
theorem wl4 : (Cond.selects "HistoryJudge$CycleSearch" ⟨"HistoryJudge$CycleSearch", "measure", "(I)V"⟩ ⟨"HistoryJudge$CycleSearch", "measure", "(I)V"⟩) ∈ jW := List.mem_of_getElem? (i := 4) (by decide +kernel)
theorem wl5 : (Cond.selects "HistoryJudge$CycleSearch" ⟨"HistoryJudge$CycleSearch", "trace", "(IIZ)V"⟩ ⟨"HistoryJudge$CycleSearch", "trace", "(IIZ)V"⟩) ∈ jW := List.mem_of_getElem? (i := 5) (by decide +kernel)
theorem wl6 : (Cond.selects "HistoryJudge$History" ⟨"HistoryJudge$History", "isJudgedRead", "(I)Z"⟩ ⟨"HistoryJudge$History", "isJudgedRead", "(I)Z"⟩) ∈ jW := List.mem_of_getElem? (i := 6) (by decide +kernel)
theorem wl7 : (Cond.selects "HistoryJudge$History" ⟨"HistoryJudge$History", "isOfAnotherCommitted", "(I)Z"⟩ ⟨"HistoryJudge$History", "isOfAnotherCommitted", "(I)Z"⟩) ∈ jW := List.mem_of_getElem? (i := 7) (by decide +kernel)
theorem wl8 : (Cond.selects "HistoryJudge$SerialSearch" ⟨"HistoryJudge$SerialSearch", "takeReads", "(LHistoryJudge$History;)V"⟩ ⟨"HistoryJudge$SerialSearch", "takeReads", "(LHistoryJudge$History;)V"⟩) ∈ jW := List.mem_of_getElem? (i := 8) (by decide +kernel)
theorem wl9 : (Cond.selects "HistoryJudge$SerialSearch" ⟨"HistoryJudge$SerialSearch", "takeRead", "(LHistoryJudge$History;I)V"⟩ ⟨"HistoryJudge$SerialSearch", "takeRead", "(LHistoryJudge$History;I)V"⟩) ∈ jW := List.mem_of_getElem? (i := 9) (by decide +kernel)
theorem wl10 : (Cond.selects "HistoryJudge$SerialSearch" ⟨"HistoryJudge$SerialSearch", "takeFirstRead", "(LHistoryJudge$History;II)V"⟩ ⟨"HistoryJudge$SerialSearch", "takeFirstRead", "(LHistoryJudge$History;II)V"⟩) ∈ jW := List.mem_of_getElem? (i := 10) (by decide +kernel)
theorem wl11 : (Cond.selects "HistoryJudge$SerialSearch" ⟨"HistoryJudge$SerialSearch", "takeForeignRead", "(LHistoryJudge$History;II)V"⟩ ⟨"HistoryJudge$SerialSearch", "takeForeignRead", "(LHistoryJudge$History;II)V"⟩) ∈ jW := List.mem_of_getElem? (i := 11) (by decide +kernel)
theorem wl12 : (Cond.selects "HistoryJudge$SerialSearch" ⟨"HistoryJudge$SerialSearch", "followers", "(I)I"⟩ ⟨"HistoryJudge$SerialSearch", "followers", "(I)I"⟩) ∈ jW := List.mem_of_getElem? (i := 12) (by decide +kernel)
theorem wl13 : (Cond.selects "HistoryJudge$SerialSearch" ⟨"HistoryJudge$SerialSearch", "mayFollow", "(II)Z"⟩ ⟨"HistoryJudge$SerialSearch", "mayFollow", "(II)Z"⟩) ∈ jW := List.mem_of_getElem? (i := 13) (by decide +kernel)
theorem wl14 : (Cond.selects "HistoryJudge$SerialSearch" ⟨"HistoryJudge$SerialSearch", "canBeEnded", "(I)Z"⟩ ⟨"HistoryJudge$SerialSearch", "canBeEnded", "(I)Z"⟩) ∈ jW := List.mem_of_getElem? (i := 14) (by decide +kernel)
theorem wl15 : (Cond.selects "HistoryJudgeModel" ⟨"HistoryJudgeModel", "note", "(IIIZ)V"⟩ ⟨"HistoryJudgeModel", "note", "(IIIZ)V"⟩) ∈ jW := List.mem_of_getElem? (i := 15) (by decide +kernel)
theorem wl16 : (Cond.selects "HistoryJudgeModel" ⟨"HistoryJudgeModel", "isVersion", "(II)Z"⟩ ⟨"HistoryJudgeModel", "isVersion", "(II)Z"⟩) ∈ jW := List.mem_of_getElem? (i := 16) (by decide +kernel)
theorem wl17 : (Cond.selects "HistoryJudgeModel" ⟨"HistoryJudgeModel", "isFinal", "(I)Z"⟩ ⟨"HistoryJudgeModel", "isFinal", "(I)Z"⟩) ∈ jW := List.mem_of_getElem? (i := 17) (by decide +kernel)
theorem wl18 : (Cond.selects "HistoryJudgeModel" ⟨"HistoryJudgeModel", "edge", "(II)I"⟩ ⟨"HistoryJudgeModel", "edge", "(II)I"⟩) ∈ jW := List.mem_of_getElem? (i := 18) (by decide +kernel)
theorem wl19 : (Cond.selects "HistoryJudgeModel" ⟨"HistoryJudgeModel", "isCommitted", "(I)Z"⟩ ⟨"HistoryJudgeModel", "isCommitted", "(I)Z"⟩) ∈ jW := List.mem_of_getElem? (i := 19) (by decide +kernel)
theorem wl20 : (Cond.selects "HistoryJudgeModel" ⟨"HistoryJudgeModel", "follows", "(II)Z"⟩ ⟨"HistoryJudgeModel", "follows", "(II)Z"⟩) ∈ jW := List.mem_of_getElem? (i := 20) (by decide +kernel)
theorem wl21 : (Cond.selects "HistoryJudgeModel" ⟨"HistoryJudgeModel", "nextOf", "(II)I"⟩ ⟨"HistoryJudgeModel", "nextOf", "(II)I"⟩) ∈ jW := List.mem_of_getElem? (i := 21) (by decide +kernel)
theorem wl22 : (Cond.selects "HistoryJudgeModel" ⟨"HistoryJudgeModel", "hasRead", "(II)Z"⟩ ⟨"HistoryJudgeModel", "hasRead", "(II)Z"⟩) ∈ jW := List.mem_of_getElem? (i := 22) (by decide +kernel)
theorem wl23 : (Cond.selects "HistoryJudgeModel" ⟨"HistoryJudgeModel", "overtaken", "(II)Z"⟩ ⟨"HistoryJudgeModel", "overtaken", "(II)Z"⟩) ∈ jW := List.mem_of_getElem? (i := 23) (by decide +kernel)
theorem wl24 : (Cond.selects "HistoryJudgeModel" ⟨"HistoryJudgeModel", "findCycle", "(I)I"⟩ ⟨"HistoryJudgeModel", "findCycle", "(I)I"⟩) ∈ jW := List.mem_of_getElem? (i := 24) (by decide +kernel)
theorem wl25 : (Cond.selects "HistoryJudgeModel" ⟨"HistoryJudgeModel", "draw", "()V"⟩ ⟨"HistoryJudgeModel", "draw", "()V"⟩) ∈ jW := List.mem_of_getElem? (i := 25) (by decide +kernel)
theorem wl26 : (Cond.selects "HistoryJudgeModel" ⟨"HistoryJudgeModel", "tryRows", "(II)Z"⟩ ⟨"HistoryJudgeModel", "tryRows", "(II)Z"⟩) ∈ jW := List.mem_of_getElem? (i := 26) (by decide +kernel)
theorem wl27 : (Cond.selects "HistoryJudgeModel" ⟨"HistoryJudgeModel", "fits", "(III)Z"⟩ ⟨"HistoryJudgeModel", "fits", "(III)Z"⟩) ∈ jW := List.mem_of_getElem? (i := 27) (by decide +kernel)
theorem wl28 : (Cond.selects "HistoryJudgeModel" ⟨"HistoryJudgeModel", "inRow", "(II)Z"⟩ ⟨"HistoryJudgeModel", "inRow", "(II)Z"⟩) ∈ jW := List.mem_of_getElem? (i := 28) (by decide +kernel)
theorem wl29 : (Cond.selects "HistoryJudgeModel" ⟨"HistoryJudgeModel", "closes", "(II)Z"⟩ ⟨"HistoryJudgeModel", "closes", "(II)Z"⟩) ∈ jW := List.mem_of_getElem? (i := 29) (by decide +kernel)
theorem wl30 : (Cond.selects "HistoryJudgeModel" ⟨"HistoryJudgeModel", "allFlaws", "()I"⟩ ⟨"HistoryJudgeModel", "allFlaws", "()I"⟩) ∈ jW := List.mem_of_getElem? (i := 30) (by decide +kernel)
theorem wl31 : (Cond.selects "HistoryJudgeModel" ⟨"HistoryJudgeModel", "readFlaws", "()I"⟩ ⟨"HistoryJudgeModel", "readFlaws", "()I"⟩) ∈ jW := List.mem_of_getElem? (i := 31) (by decide +kernel)
theorem wl32 : (Cond.selects "HistoryJudgeModel" ⟨"HistoryJudgeModel", "tryOrders", "(II)Z"⟩ ⟨"HistoryJudgeModel", "tryOrders", "(II)Z"⟩) ∈ jW := List.mem_of_getElem? (i := 32) (by decide +kernel)
theorem wl33 : (Cond.selects "HistoryJudgeModel" ⟨"HistoryJudgeModel", "committed", "()I"⟩ ⟨"HistoryJudgeModel", "committed", "()I"⟩) ∈ jW := List.mem_of_getElem? (i := 33) (by decide +kernel)
theorem wl34 : (Cond.selects "HistoryJudgeModel" ⟨"HistoryJudgeModel", "runs", "(II)Z"⟩ ⟨"HistoryJudgeModel", "runs", "(II)Z"⟩) ∈ jW := List.mem_of_getElem? (i := 34) (by decide +kernel)
theorem wl35 : (Cond.initialized "HistoryJudgeLaw") ∈ jW := List.mem_of_getElem? (i := 35) (by decide +kernel)
theorem wl36 : (Cond.initialized "HistoryJudge") ∈ jW := List.mem_of_getElem? (i := 36) (by decide +kernel)
theorem wl37 : (Cond.initialized "HistoryJudge$History") ∈ jW := List.mem_of_getElem? (i := 37) (by decide +kernel)
theorem wl38 : (Cond.initialized "java/util/Arrays") ∈ jW := List.mem_of_getElem? (i := 38) (by decide +kernel)
theorem wl39 : (Cond.initialized "HistoryJudge$Graph") ∈ jW := List.mem_of_getElem? (i := 39) (by decide +kernel)
theorem wl40 : (Cond.initialized "HistoryJudge$CycleSearch") ∈ jW := List.mem_of_getElem? (i := 40) (by decide +kernel)
theorem wl41 : (Cond.initialized "HistoryJudge$SerialSearch") ∈ jW := List.mem_of_getElem? (i := 41) (by decide +kernel)
theorem wl42 : (Cond.initialized "HistoryJudgeModel") ∈ jW := List.mem_of_getElem? (i := 42) (by decide +kernel)
theorem wl43 : (Cond.initialized "java/lang/Throwable") ∈ jW := List.mem_of_getElem? (i := 43) (by decide +kernel)
theorem wl44 : (Cond.initialized "java/lang/Exception") ∈ jW := List.mem_of_getElem? (i := 44) (by decide +kernel)
theorem wl45 : (Cond.initialized "java/lang/RuntimeException") ∈ jW := List.mem_of_getElem? (i := 45) (by decide +kernel)
theorem wl46 : (Cond.initialized "java/lang/IllegalArgumentException") ∈ jW := List.mem_of_getElem? (i := 46) (by decide +kernel)
theorem wl47 : (Cond.initialized "java/lang/IllegalStateException") ∈ jW := List.mem_of_getElem? (i := 47) (by decide +kernel)
theorem wl48 : (Cond.initialized "java/lang/UnsupportedOperationException") ∈ jW := List.mem_of_getElem? (i := 48) (by decide +kernel)
theorem wl49 : (Cond.initialized "java/util/NoSuchElementException") ∈ jW := List.mem_of_getElem? (i := 49) (by decide +kernel)
theorem wl50 : (Cond.initialized "java/lang/Integer") ∈ jW := List.mem_of_getElem? (i := 50) (by decide +kernel)
theorem wl51 : (Cond.classLink "HistoryJudgeLaw" 8 "HistoryJudge") ∈ jW := List.mem_of_getElem? (i := 51) (by decide +kernel)
theorem wl52 : (Cond.instantiable "HistoryJudge" 4) ∈ jW := List.mem_of_getElem? (i := 52) (by decide +kernel)
theorem wl53 : (Cond.methodLink "HistoryJudgeLaw" 29 ⟨"HistoryJudge", "<init>", "()V"⟩) ∈ jW := List.mem_of_getElem? (i := 53) (by decide +kernel)
theorem wl54 : (Cond.instanceMethod ⟨"HistoryJudge", "<init>", "()V"⟩) ∈ jW := List.mem_of_getElem? (i := 54) (by decide +kernel)
theorem wl55 : (Cond.code ⟨"HistoryJudge", "<init>", "()V"⟩ prog_1_method_1_code 1 none) ∈ jW := List.mem_of_getElem? (i := 55) (by decide +kernel)
theorem wl56 : (Cond.methodLink "HistoryJudge" 1 ⟨"java/lang/Object", "<init>", "()V"⟩) ∈ jW := List.mem_of_getElem? (i := 56) (by decide +kernel)
theorem wl57 : (Cond.instanceMethod ⟨"java/lang/Object", "<init>", "()V"⟩) ∈ jW := List.mem_of_getElem? (i := 57) (by decide +kernel)
theorem wl58 : (Cond.code ⟨"java/lang/Object", "<init>", "()V"⟩ object_method_1_code 1 none) ∈ jW := List.mem_of_getElem? (i := 58) (by decide +kernel)
theorem wl59 : (Cond.classLink "HistoryJudge" 7 "HistoryJudge$History") ∈ jW := List.mem_of_getElem? (i := 59) (by decide +kernel)
theorem wl60 : (Cond.instantiable "HistoryJudge$History" 12) ∈ jW := List.mem_of_getElem? (i := 60) (by decide +kernel)
theorem wl61 : (Cond.methodLink "HistoryJudge" 9 ⟨"HistoryJudge$History", "<init>", "()V"⟩) ∈ jW := List.mem_of_getElem? (i := 61) (by decide +kernel)
theorem wl62 : (Cond.instanceMethod ⟨"HistoryJudge$History", "<init>", "()V"⟩) ∈ jW := List.mem_of_getElem? (i := 62) (by decide +kernel)
theorem wl63 : (Cond.code ⟨"HistoryJudge$History", "<init>", "()V"⟩ prog_4_method_1_code 1 none) ∈ jW := List.mem_of_getElem? (i := 63) (by decide +kernel)
theorem wl64 : (Cond.methodLink "HistoryJudge$History" 3 ⟨"java/lang/Object", "<init>", "()V"⟩) ∈ jW := List.mem_of_getElem? (i := 64) (by decide +kernel)
theorem wl65 : (Cond.classLink "HistoryJudge$History" 33 "[[I") ∈ jW := List.mem_of_getElem? (i := 65) (by decide +kernel)
theorem wl66 : (Cond.methodLink "HistoryJudge$History" 44 ⟨"HistoryJudge$History", "reset", "()V"⟩) ∈ jW := List.mem_of_getElem? (i := 66) (by decide +kernel)
theorem wl67 : (Cond.instanceMethod ⟨"HistoryJudge$History", "reset", "()V"⟩) ∈ jW := List.mem_of_getElem? (i := 67) (by decide +kernel)
theorem wl68 : (Cond.selects "HistoryJudge$History" ⟨"HistoryJudge$History", "reset", "()V"⟩ ⟨"HistoryJudge$History", "reset", "()V"⟩) ∈ jW := List.mem_of_getElem? (i := 68) (by decide +kernel)
theorem wl69 : (Cond.code ⟨"HistoryJudge$History", "reset", "()V"⟩ prog_4_method_2_code 2 none) ∈ jW := List.mem_of_getElem? (i := 69) (by decide +kernel)
theorem wl70 : (Cond.methodLink "HistoryJudge$History" 54 ⟨"java/util/Arrays", "fill", "([II)V"⟩) ∈ jW := List.mem_of_getElem? (i := 70) (by decide +kernel)
theorem wl71 : (Cond.static ⟨"java/util/Arrays", "fill", "([II)V"⟩) ∈ jW := List.mem_of_getElem? (i := 71) (by decide +kernel)
theorem wl72 : (Cond.code ⟨"java/util/Arrays", "fill", "([II)V"⟩ prog_15_method_103_code 4 none) ∈ jW := List.mem_of_getElem? (i := 72) (by decide +kernel)
theorem wl73 : (Cond.fieldLink "HistoryJudge$History" 9 "HistoryJudge$History" "states" "[I") ∈ jW := List.mem_of_getElem? (i := 73) (by decide +kernel)
theorem wl74 : (Cond.fieldLink "HistoryJudge" 78 "HistoryJudge$History" "states" "[I") ∈ jW := List.mem_of_getElem? (i := 74) (by decide +kernel)
theorem wl75 : (Cond.fieldLink "HistoryJudge$History" 15 "HistoryJudge$History" "writers" "[I") ∈ jW := List.mem_of_getElem? (i := 75) (by decide +kernel)
theorem wl76 : (Cond.fieldLink "HistoryJudge$Graph" 54 "HistoryJudge$History" "writers" "[I") ∈ jW := List.mem_of_getElem? (i := 76) (by decide +kernel)
theorem wl77 : (Cond.fieldLink "HistoryJudge$SerialSearch" 96 "HistoryJudge$History" "writers" "[I") ∈ jW := List.mem_of_getElem? (i := 77) (by decide +kernel)
theorem wl78 : (Cond.fieldLink "HistoryJudge$History" 18 "HistoryJudge$History" "writtenItems" "[I") ∈ jW := List.mem_of_getElem? (i := 78) (by decide +kernel)
theorem wl79 : (Cond.fieldLink "HistoryJudge$History" 47 "HistoryJudge$History" "versions" "I") ∈ jW := List.mem_of_getElem? (i := 79) (by decide +kernel)
theorem wl80 : (Cond.fieldLink "HistoryJudge" 53 "HistoryJudge$History" "versions" "I") ∈ jW := List.mem_of_getElem? (i := 80) (by decide +kernel)
theorem wl81 : (Cond.fieldLink "HistoryJudge$History" 21 "HistoryJudge$History" "readers" "[I") ∈ jW := List.mem_of_getElem? (i := 81) (by decide +kernel)
theorem wl82 : (Cond.fieldLink "HistoryJudge$Graph" 37 "HistoryJudge$History" "readers" "[I") ∈ jW := List.mem_of_getElem? (i := 82) (by decide +kernel)
theorem wl83 : (Cond.fieldLink "HistoryJudge$SerialSearch" 73 "HistoryJudge$History" "readers" "[I") ∈ jW := List.mem_of_getElem? (i := 83) (by decide +kernel)
theorem wl84 : (Cond.fieldLink "HistoryJudge$History" 24 "HistoryJudge$History" "readItems" "[I") ∈ jW := List.mem_of_getElem? (i := 84) (by decide +kernel)
theorem wl85 : (Cond.fieldLink "HistoryJudge$Graph" 64 "HistoryJudge$History" "readItems" "[I") ∈ jW := List.mem_of_getElem? (i := 85) (by decide +kernel)
theorem wl86 : (Cond.fieldLink "HistoryJudge$SerialSearch" 89 "HistoryJudge$History" "readItems" "[I") ∈ jW := List.mem_of_getElem? (i := 86) (by decide +kernel)
theorem wl87 : (Cond.fieldLink "HistoryJudge$History" 27 "HistoryJudge$History" "readVersions" "[I") ∈ jW := List.mem_of_getElem? (i := 87) (by decide +kernel)
theorem wl88 : (Cond.fieldLink "HistoryJudge$Graph" 61 "HistoryJudge$History" "readVersions" "[I") ∈ jW := List.mem_of_getElem? (i := 88) (by decide +kernel)
theorem wl89 : (Cond.fieldLink "HistoryJudge$SerialSearch" 83 "HistoryJudge$History" "readVersions" "[I") ∈ jW := List.mem_of_getElem? (i := 89) (by decide +kernel)
theorem wl90 : (Cond.fieldLink "HistoryJudge$History" 30 "HistoryJudge$History" "ownVersions" "[I") ∈ jW := List.mem_of_getElem? (i := 90) (by decide +kernel)
theorem wl91 : (Cond.fieldLink "HistoryJudge$SerialSearch" 86 "HistoryJudge$History" "ownVersions" "[I") ∈ jW := List.mem_of_getElem? (i := 91) (by decide +kernel)
theorem wl92 : (Cond.fieldLink "HistoryJudge$History" 51 "HistoryJudge$History" "reads" "I") ∈ jW := List.mem_of_getElem? (i := 92) (by decide +kernel)
theorem wl93 : (Cond.fieldLink "HistoryJudge$Graph" 31 "HistoryJudge$History" "reads" "I") ∈ jW := List.mem_of_getElem? (i := 93) (by decide +kernel)
theorem wl94 : (Cond.fieldLink "HistoryJudge" 71 "HistoryJudge$History" "reads" "I") ∈ jW := List.mem_of_getElem? (i := 94) (by decide +kernel)
theorem wl95 : (Cond.fieldLink "HistoryJudge$SerialSearch" 70 "HistoryJudge$History" "reads" "I") ∈ jW := List.mem_of_getElem? (i := 95) (by decide +kernel)
theorem wl96 : (Cond.fieldLink "HistoryJudge$History" 35 "HistoryJudge$History" "latest" "[[I") ∈ jW := List.mem_of_getElem? (i := 96) (by decide +kernel)
theorem wl97 : (Cond.fieldLink "HistoryJudge$History" 38 "HistoryJudge$History" "order" "[[I") ∈ jW := List.mem_of_getElem? (i := 97) (by decide +kernel)
theorem wl98 : (Cond.fieldLink "HistoryJudge$Graph" 47 "HistoryJudge$History" "order" "[[I") ∈ jW := List.mem_of_getElem? (i := 98) (by decide +kernel)
theorem wl99 : (Cond.fieldLink "HistoryJudge" 89 "HistoryJudge$History" "order" "[[I") ∈ jW := List.mem_of_getElem? (i := 99) (by decide +kernel)
theorem wl100 : (Cond.fieldLink "HistoryJudge$History" 41 "HistoryJudge$History" "ordered" "[I") ∈ jW := List.mem_of_getElem? (i := 100) (by decide +kernel)
theorem wl101 : (Cond.fieldLink "HistoryJudge$Graph" 51 "HistoryJudge$History" "ordered" "[I") ∈ jW := List.mem_of_getElem? (i := 101) (by decide +kernel)
theorem wl102 : (Cond.fieldLink "HistoryJudge" 86 "HistoryJudge$History" "ordered" "[I") ∈ jW := List.mem_of_getElem? (i := 102) (by decide +kernel)
theorem wl103 : (Cond.laysFinal "HistoryJudge$History" "HistoryJudge$History" "states" "[I") ∈ jW := List.mem_of_getElem? (i := 103) (by decide +kernel)
theorem wl104 : (Cond.laysFinal "HistoryJudge$History" "HistoryJudge$History" "writers" "[I") ∈ jW := List.mem_of_getElem? (i := 104) (by decide +kernel)
theorem wl105 : (Cond.laysFinal "HistoryJudge$History" "HistoryJudge$History" "writtenItems" "[I") ∈ jW := List.mem_of_getElem? (i := 105) (by decide +kernel)
theorem wl106 : (Cond.lays "HistoryJudge$History" "HistoryJudge$History" "versions" "I") ∈ jW := List.mem_of_getElem? (i := 106) (by decide +kernel)
theorem wl107 : (Cond.laysFinal "HistoryJudge$History" "HistoryJudge$History" "readers" "[I") ∈ jW := List.mem_of_getElem? (i := 107) (by decide +kernel)
theorem wl108 : (Cond.laysFinal "HistoryJudge$History" "HistoryJudge$History" "readItems" "[I") ∈ jW := List.mem_of_getElem? (i := 108) (by decide +kernel)
theorem wl109 : (Cond.laysFinal "HistoryJudge$History" "HistoryJudge$History" "readVersions" "[I") ∈ jW := List.mem_of_getElem? (i := 109) (by decide +kernel)
theorem wl110 : (Cond.laysFinal "HistoryJudge$History" "HistoryJudge$History" "ownVersions" "[I") ∈ jW := List.mem_of_getElem? (i := 110) (by decide +kernel)
theorem wl111 : (Cond.lays "HistoryJudge$History" "HistoryJudge$History" "reads" "I") ∈ jW := List.mem_of_getElem? (i := 111) (by decide +kernel)
theorem wl112 : (Cond.laysFinal "HistoryJudge$History" "HistoryJudge$History" "latest" "[[I") ∈ jW := List.mem_of_getElem? (i := 112) (by decide +kernel)
theorem wl113 : (Cond.laysFinal "HistoryJudge$History" "HistoryJudge$History" "order" "[[I") ∈ jW := List.mem_of_getElem? (i := 113) (by decide +kernel)
theorem wl114 : (Cond.laysFinal "HistoryJudge$History" "HistoryJudge$History" "ordered" "[I") ∈ jW := List.mem_of_getElem? (i := 114) (by decide +kernel)
theorem wl115 : (Cond.arrayClass FieldType.int) ∈ jW := List.mem_of_getElem? (i := 115) (by decide +kernel)
theorem wl116 : (Cond.classLink "HistoryJudge" 16 "HistoryJudge$Graph") ∈ jW := List.mem_of_getElem? (i := 116) (by decide +kernel)
theorem wl117 : (Cond.instantiable "HistoryJudge$Graph" 3) ∈ jW := List.mem_of_getElem? (i := 117) (by decide +kernel)
theorem wl118 : (Cond.instanceMethod ⟨"HistoryJudge$Graph", "<init>", "()V"⟩) ∈ jW := List.mem_of_getElem? (i := 118) (by decide +kernel)
theorem wl119 : (Cond.code ⟨"HistoryJudge$Graph", "<init>", "()V"⟩ prog_3_method_1_code 1 none) ∈ jW := List.mem_of_getElem? (i := 119) (by decide +kernel)
theorem wl120 : (Cond.methodLink "HistoryJudge$Graph" 3 ⟨"java/lang/Object", "<init>", "()V"⟩) ∈ jW := List.mem_of_getElem? (i := 120) (by decide +kernel)
theorem wl121 : (Cond.fieldLink "HistoryJudge$Graph" 9 "HistoryJudge$Graph" "ww" "[I") ∈ jW := List.mem_of_getElem? (i := 121) (by decide +kernel)
theorem wl122 : (Cond.fieldLink "HistoryJudge$CycleSearch" 51 "HistoryJudge$Graph" "ww" "[I") ∈ jW := List.mem_of_getElem? (i := 122) (by decide +kernel)
theorem wl123 : (Cond.fieldLink "HistoryJudge" 97 "HistoryJudge$Graph" "ww" "[I") ∈ jW := List.mem_of_getElem? (i := 123) (by decide +kernel)
theorem wl124 : (Cond.fieldLink "HistoryJudge$Graph" 15 "HistoryJudge$Graph" "wr" "[I") ∈ jW := List.mem_of_getElem? (i := 124) (by decide +kernel)
theorem wl125 : (Cond.fieldLink "HistoryJudge$CycleSearch" 43 "HistoryJudge$Graph" "wr" "[I") ∈ jW := List.mem_of_getElem? (i := 125) (by decide +kernel)
theorem wl126 : (Cond.fieldLink "HistoryJudge" 103 "HistoryJudge$Graph" "wr" "[I") ∈ jW := List.mem_of_getElem? (i := 126) (by decide +kernel)
theorem wl127 : (Cond.fieldLink "HistoryJudge$Graph" 18 "HistoryJudge$Graph" "rw" "[I") ∈ jW := List.mem_of_getElem? (i := 127) (by decide +kernel)
theorem wl128 : (Cond.fieldLink "HistoryJudge$CycleSearch" 48 "HistoryJudge$Graph" "rw" "[I") ∈ jW := List.mem_of_getElem? (i := 128) (by decide +kernel)
theorem wl129 : (Cond.fieldLink "HistoryJudge" 106 "HistoryJudge$Graph" "rw" "[I") ∈ jW := List.mem_of_getElem? (i := 129) (by decide +kernel)
theorem wl130 : (Cond.laysFinal "HistoryJudge$Graph" "HistoryJudge$Graph" "ww" "[I") ∈ jW := List.mem_of_getElem? (i := 130) (by decide +kernel)
theorem wl131 : (Cond.laysFinal "HistoryJudge$Graph" "HistoryJudge$Graph" "wr" "[I") ∈ jW := List.mem_of_getElem? (i := 131) (by decide +kernel)
theorem wl132 : (Cond.laysFinal "HistoryJudge$Graph" "HistoryJudge$Graph" "rw" "[I") ∈ jW := List.mem_of_getElem? (i := 132) (by decide +kernel)
theorem wl133 : (Cond.classLink "HistoryJudge" 23 "HistoryJudge$CycleSearch") ∈ jW := List.mem_of_getElem? (i := 133) (by decide +kernel)
theorem wl134 : (Cond.instantiable "HistoryJudge$CycleSearch" 5) ∈ jW := List.mem_of_getElem? (i := 134) (by decide +kernel)
theorem wl135 : (Cond.instanceMethod ⟨"HistoryJudge$CycleSearch", "<init>", "()V"⟩) ∈ jW := List.mem_of_getElem? (i := 135) (by decide +kernel)
theorem wl136 : (Cond.code ⟨"HistoryJudge$CycleSearch", "<init>", "()V"⟩ prog_2_method_1_code 1 none) ∈ jW := List.mem_of_getElem? (i := 136) (by decide +kernel)
theorem wl137 : (Cond.methodLink "HistoryJudge$CycleSearch" 3 ⟨"java/lang/Object", "<init>", "()V"⟩) ∈ jW := List.mem_of_getElem? (i := 137) (by decide +kernel)
theorem wl138 : (Cond.fieldLink "HistoryJudge$CycleSearch" 9 "HistoryJudge$CycleSearch" "plain" "[I") ∈ jW := List.mem_of_getElem? (i := 138) (by decide +kernel)
theorem wl139 : (Cond.fieldLink "HistoryJudge$CycleSearch" 15 "HistoryJudge$CycleSearch" "marked" "[I") ∈ jW := List.mem_of_getElem? (i := 139) (by decide +kernel)
theorem wl140 : (Cond.fieldLink "HistoryJudge$CycleSearch" 18 "HistoryJudge$CycleSearch" "paid" "[I") ∈ jW := List.mem_of_getElem? (i := 140) (by decide +kernel)
theorem wl141 : (Cond.fieldLink "HistoryJudge$CycleSearch" 21 "HistoryJudge$CycleSearch" "owing" "[I") ∈ jW := List.mem_of_getElem? (i := 141) (by decide +kernel)
theorem wl142 : (Cond.fieldLink "HistoryJudge$CycleSearch" 24 "HistoryJudge$CycleSearch" "row" "[I") ∈ jW := List.mem_of_getElem? (i := 142) (by decide +kernel)
theorem wl143 : (Cond.fieldLink "HistoryJudge" 128 "HistoryJudge$CycleSearch" "row" "[I") ∈ jW := List.mem_of_getElem? (i := 143) (by decide +kernel)
theorem wl144 : (Cond.laysFinal "HistoryJudge$CycleSearch" "HistoryJudge$CycleSearch" "plain" "[I") ∈ jW := List.mem_of_getElem? (i := 144) (by decide +kernel)
theorem wl145 : (Cond.laysFinal "HistoryJudge$CycleSearch" "HistoryJudge$CycleSearch" "marked" "[I") ∈ jW := List.mem_of_getElem? (i := 145) (by decide +kernel)
theorem wl146 : (Cond.laysFinal "HistoryJudge$CycleSearch" "HistoryJudge$CycleSearch" "paid" "[I") ∈ jW := List.mem_of_getElem? (i := 146) (by decide +kernel)
theorem wl147 : (Cond.laysFinal "HistoryJudge$CycleSearch" "HistoryJudge$CycleSearch" "owing" "[I") ∈ jW := List.mem_of_getElem? (i := 147) (by decide +kernel)
theorem wl148 : (Cond.laysFinal "HistoryJudge$CycleSearch" "HistoryJudge$CycleSearch" "row" "[I") ∈ jW := List.mem_of_getElem? (i := 148) (by decide +kernel)
theorem wl149 : (Cond.classLink "HistoryJudge" 30 "HistoryJudge$SerialSearch") ∈ jW := List.mem_of_getElem? (i := 149) (by decide +kernel)
theorem wl150 : (Cond.instantiable "HistoryJudge$SerialSearch" 5) ∈ jW := List.mem_of_getElem? (i := 150) (by decide +kernel)
theorem wl151 : (Cond.instanceMethod ⟨"HistoryJudge$SerialSearch", "<init>", "()V"⟩) ∈ jW := List.mem_of_getElem? (i := 151) (by decide +kernel)
theorem wl152 : (Cond.code ⟨"HistoryJudge$SerialSearch", "<init>", "()V"⟩ prog_5_method_1_code 1 none) ∈ jW := List.mem_of_getElem? (i := 152) (by decide +kernel)
theorem wl153 : (Cond.methodLink "HistoryJudge$SerialSearch" 3 ⟨"java/lang/Object", "<init>", "()V"⟩) ∈ jW := List.mem_of_getElem? (i := 153) (by decide +kernel)
theorem wl154 : (Cond.classLink "HistoryJudge$SerialSearch" 15 "[[I") ∈ jW := List.mem_of_getElem? (i := 154) (by decide +kernel)
theorem wl155 : (Cond.fieldLink "HistoryJudge$SerialSearch" 9 "HistoryJudge$SerialSearch" "before" "[I") ∈ jW := List.mem_of_getElem? (i := 155) (by decide +kernel)
theorem wl156 : (Cond.fieldLink "HistoryJudge$SerialSearch" 17 "HistoryJudge$SerialSearch" "readersBetween" "[[I") ∈ jW := List.mem_of_getElem? (i := 156) (by decide +kernel)
theorem wl157 : (Cond.fieldLink "HistoryJudge$SerialSearch" 20 "HistoryJudge$SerialSearch" "nexts" "[I") ∈ jW := List.mem_of_getElem? (i := 157) (by decide +kernel)
theorem wl158 : (Cond.fieldLink "HistoryJudge" 140 "HistoryJudge$SerialSearch" "nexts" "[I") ∈ jW := List.mem_of_getElem? (i := 158) (by decide +kernel)
theorem wl159 : (Cond.fieldLink "HistoryJudge$SerialSearch" 31 "HistoryJudge$SerialSearch" "committed" "I") ∈ jW := List.mem_of_getElem? (i := 159) (by decide +kernel)
theorem wl160 : (Cond.fieldLink "HistoryJudge$SerialSearch" 27 "HistoryJudge$SerialSearch" "sound" "Z") ∈ jW := List.mem_of_getElem? (i := 160) (by decide +kernel)
theorem wl161 : (Cond.laysFinal "HistoryJudge$SerialSearch" "HistoryJudge$SerialSearch" "before" "[I") ∈ jW := List.mem_of_getElem? (i := 161) (by decide +kernel)
theorem wl162 : (Cond.laysFinal "HistoryJudge$SerialSearch" "HistoryJudge$SerialSearch" "readersBetween" "[[I") ∈ jW := List.mem_of_getElem? (i := 162) (by decide +kernel)
theorem wl163 : (Cond.laysFinal "HistoryJudge$SerialSearch" "HistoryJudge$SerialSearch" "nexts" "[I") ∈ jW := List.mem_of_getElem? (i := 163) (by decide +kernel)
theorem wl164 : (Cond.lays "HistoryJudge$SerialSearch" "HistoryJudge$SerialSearch" "committed" "I") ∈ jW := List.mem_of_getElem? (i := 164) (by decide +kernel)
theorem wl165 : (Cond.lays "HistoryJudge$SerialSearch" "HistoryJudge$SerialSearch" "sound" "Z") ∈ jW := List.mem_of_getElem? (i := 165) (by decide +kernel)
theorem wl166 : (Cond.fieldLink "HistoryJudge" 10 "HistoryJudge" "history" "LHistoryJudge$History;") ∈ jW := List.mem_of_getElem? (i := 166) (by decide +kernel)
theorem wl167 : (Cond.fieldLink "HistoryJudge" 19 "HistoryJudge" "graph" "LHistoryJudge$Graph;") ∈ jW := List.mem_of_getElem? (i := 167) (by decide +kernel)
theorem wl168 : (Cond.fieldLink "HistoryJudge" 26 "HistoryJudge" "cycles" "LHistoryJudge$CycleSearch;") ∈ jW := List.mem_of_getElem? (i := 168) (by decide +kernel)
theorem wl169 : (Cond.fieldLink "HistoryJudge" 33 "HistoryJudge" "serials" "LHistoryJudge$SerialSearch;") ∈ jW := List.mem_of_getElem? (i := 169) (by decide +kernel)
theorem wl170 : (Cond.laysFinal "HistoryJudge" "HistoryJudge" "history" "LHistoryJudge$History;") ∈ jW := List.mem_of_getElem? (i := 170) (by decide +kernel)
theorem wl171 : (Cond.laysFinal "HistoryJudge" "HistoryJudge" "graph" "LHistoryJudge$Graph;") ∈ jW := List.mem_of_getElem? (i := 171) (by decide +kernel)
theorem wl172 : (Cond.laysFinal "HistoryJudge" "HistoryJudge" "cycles" "LHistoryJudge$CycleSearch;") ∈ jW := List.mem_of_getElem? (i := 172) (by decide +kernel)
theorem wl173 : (Cond.laysFinal "HistoryJudge" "HistoryJudge" "serials" "LHistoryJudge$SerialSearch;") ∈ jW := List.mem_of_getElem? (i := 173) (by decide +kernel)
theorem wl174 : (Cond.methodLink "HistoryJudgeLaw" 51 ⟨"HistoryJudge", "state", "(I)I"⟩) ∈ jW := List.mem_of_getElem? (i := 174) (by decide +kernel)
theorem wl175 : (Cond.instanceMethod ⟨"HistoryJudge", "state", "(I)I"⟩) ∈ jW := List.mem_of_getElem? (i := 175) (by decide +kernel)
theorem wl176 : (Cond.selects "HistoryJudge" ⟨"HistoryJudge", "state", "(I)I"⟩ ⟨"HistoryJudge", "state", "(I)I"⟩) ∈ jW := List.mem_of_getElem? (i := 176) (by decide +kernel)
theorem wl177 : (Cond.code ⟨"HistoryJudge", "state", "(I)I"⟩ prog_1_method_5_code 2 (some FieldType.int)) ∈ jW := List.mem_of_getElem? (i := 177) (by decide +kernel)
theorem wl178 : (Cond.methodLink "HistoryJudge" 37 ⟨"HistoryJudge", "isTransaction", "(I)Z"⟩) ∈ jW := List.mem_of_getElem? (i := 178) (by decide +kernel)
theorem wl179 : (Cond.static ⟨"HistoryJudge", "isTransaction", "(I)Z"⟩) ∈ jW := List.mem_of_getElem? (i := 179) (by decide +kernel)
theorem wl180 : (Cond.code ⟨"HistoryJudge", "isTransaction", "(I)Z"⟩ prog_1_method_17_code 1 (some FieldType.boolean)) ∈ jW := List.mem_of_getElem? (i := 180) (by decide +kernel)
theorem wl181 : (Cond.methodLink "HistoryJudgeLaw" 56 ⟨"HistoryJudge", "version", "(II)I"⟩) ∈ jW := List.mem_of_getElem? (i := 181) (by decide +kernel)
theorem wl182 : (Cond.instanceMethod ⟨"HistoryJudge", "version", "(II)I"⟩) ∈ jW := List.mem_of_getElem? (i := 182) (by decide +kernel)
theorem wl183 : (Cond.selects "HistoryJudge" ⟨"HistoryJudge", "version", "(II)I"⟩ ⟨"HistoryJudge", "version", "(II)I"⟩) ∈ jW := List.mem_of_getElem? (i := 183) (by decide +kernel)
theorem wl184 : (Cond.code ⟨"HistoryJudge", "version", "(II)I"⟩ prog_1_method_6_code 3 (some FieldType.int)) ∈ jW := List.mem_of_getElem? (i := 184) (by decide +kernel)
theorem wl185 : (Cond.methodLink "HistoryJudge" 41 ⟨"HistoryJudge", "isItem", "(I)Z"⟩) ∈ jW := List.mem_of_getElem? (i := 185) (by decide +kernel)
theorem wl186 : (Cond.static ⟨"HistoryJudge", "isItem", "(I)Z"⟩) ∈ jW := List.mem_of_getElem? (i := 186) (by decide +kernel)
theorem wl187 : (Cond.code ⟨"HistoryJudge", "isItem", "(I)Z"⟩ prog_1_method_18_code 1 (some FieldType.boolean)) ∈ jW := List.mem_of_getElem? (i := 187) (by decide +kernel)
theorem wl188 : (Cond.methodLink "HistoryJudgeLaw" 60 ⟨"HistoryJudge", "exchange", "(II)Z"⟩) ∈ jW := List.mem_of_getElem? (i := 188) (by decide +kernel)
theorem wl189 : (Cond.instanceMethod ⟨"HistoryJudge", "exchange", "(II)Z"⟩) ∈ jW := List.mem_of_getElem? (i := 189) (by decide +kernel)
theorem wl190 : (Cond.selects "HistoryJudge" ⟨"HistoryJudge", "exchange", "(II)Z"⟩ ⟨"HistoryJudge", "exchange", "(II)Z"⟩) ∈ jW := List.mem_of_getElem? (i := 190) (by decide +kernel)
theorem wl191 : (Cond.code ⟨"HistoryJudge", "exchange", "(II)Z"⟩ prog_1_method_7_code 5 (some FieldType.boolean)) ∈ jW := List.mem_of_getElem? (i := 191) (by decide +kernel)
theorem wl192 : (Cond.methodLink "HistoryJudgeLaw" 65 ⟨"HistoryJudge", "edges", "(II)I"⟩) ∈ jW := List.mem_of_getElem? (i := 192) (by decide +kernel)
theorem wl193 : (Cond.instanceMethod ⟨"HistoryJudge", "edges", "(II)I"⟩) ∈ jW := List.mem_of_getElem? (i := 193) (by decide +kernel)
theorem wl194 : (Cond.selects "HistoryJudge" ⟨"HistoryJudge", "edges", "(II)I"⟩ ⟨"HistoryJudge", "edges", "(II)I"⟩) ∈ jW := List.mem_of_getElem? (i := 194) (by decide +kernel)
theorem wl195 : (Cond.code ⟨"HistoryJudge", "edges", "(II)I"⟩ prog_1_method_8_code 3 (some FieldType.int)) ∈ jW := List.mem_of_getElem? (i := 195) (by decide +kernel)
theorem wl196 : (Cond.methodLink "HistoryJudge" 93 ⟨"HistoryJudge$Graph", "draw", "(LHistoryJudge$History;)V"⟩) ∈ jW := List.mem_of_getElem? (i := 196) (by decide +kernel)
theorem wl197 : (Cond.instanceMethod ⟨"HistoryJudge$Graph", "draw", "(LHistoryJudge$History;)V"⟩) ∈ jW := List.mem_of_getElem? (i := 197) (by decide +kernel)
theorem wl198 : (Cond.selects "HistoryJudge$Graph" ⟨"HistoryJudge$Graph", "draw", "(LHistoryJudge$History;)V"⟩ ⟨"HistoryJudge$Graph", "draw", "(LHistoryJudge$History;)V"⟩) ∈ jW := List.mem_of_getElem? (i := 198) (by decide +kernel)
theorem wl199 : (Cond.code ⟨"HistoryJudge$Graph", "draw", "(LHistoryJudge$History;)V"⟩ prog_3_method_2_code 3 none) ∈ jW := List.mem_of_getElem? (i := 199) (by decide +kernel)
theorem wl200 : (Cond.methodLink "HistoryJudge$Graph" 21 ⟨"java/util/Arrays", "fill", "([II)V"⟩) ∈ jW := List.mem_of_getElem? (i := 200) (by decide +kernel)
theorem wl201 : (Cond.methodLink "HistoryJudge$Graph" 27 ⟨"HistoryJudge$Graph", "drawOrder", "(LHistoryJudge$History;I)V"⟩) ∈ jW := List.mem_of_getElem? (i := 201) (by decide +kernel)
theorem wl202 : (Cond.instanceMethod ⟨"HistoryJudge$Graph", "drawOrder", "(LHistoryJudge$History;I)V"⟩) ∈ jW := List.mem_of_getElem? (i := 202) (by decide +kernel)
theorem wl203 : (Cond.code ⟨"HistoryJudge$Graph", "drawOrder", "(LHistoryJudge$History;I)V"⟩ prog_3_method_3_code 5 none) ∈ jW := List.mem_of_getElem? (i := 203) (by decide +kernel)
theorem wl204 : (Cond.methodLink "HistoryJudge$Graph" 57 ⟨"HistoryJudge$Graph", "join", "([III)V"⟩) ∈ jW := List.mem_of_getElem? (i := 204) (by decide +kernel)
theorem wl205 : (Cond.static ⟨"HistoryJudge$Graph", "join", "([III)V"⟩) ∈ jW := List.mem_of_getElem? (i := 205) (by decide +kernel)
theorem wl206 : (Cond.code ⟨"HistoryJudge$Graph", "join", "([III)V"⟩ prog_3_method_5_code 3 none) ∈ jW := List.mem_of_getElem? (i := 206) (by decide +kernel)
theorem wl207 : (Cond.static ⟨"HistoryJudge", "only", "(I)I"⟩) ∈ jW := List.mem_of_getElem? (i := 207) (by decide +kernel)
theorem wl208 : (Cond.code ⟨"HistoryJudge", "only", "(I)I"⟩ prog_1_method_19_code 1 (some FieldType.int)) ∈ jW := List.mem_of_getElem? (i := 208) (by decide +kernel)
theorem wl209 : (Cond.methodLink "HistoryJudge$Graph" 40 ⟨"HistoryJudge$History", "isCommitted", "(I)Z"⟩) ∈ jW := List.mem_of_getElem? (i := 209) (by decide +kernel)
theorem wl210 : (Cond.instanceMethod ⟨"HistoryJudge$History", "isCommitted", "(I)Z"⟩) ∈ jW := List.mem_of_getElem? (i := 210) (by decide +kernel)
theorem wl211 : (Cond.selects "HistoryJudge$History" ⟨"HistoryJudge$History", "isCommitted", "(I)Z"⟩ ⟨"HistoryJudge$History", "isCommitted", "(I)Z"⟩) ∈ jW := List.mem_of_getElem? (i := 211) (by decide +kernel)
theorem wl212 : (Cond.code ⟨"HistoryJudge$History", "isCommitted", "(I)Z"⟩ prog_4_method_4_code 2 (some FieldType.boolean)) ∈ jW := List.mem_of_getElem? (i := 212) (by decide +kernel)
theorem wl213 : (Cond.methodLink "HistoryJudge$Graph" 44 ⟨"HistoryJudge$Graph", "drawRead", "(LHistoryJudge$History;I)V"⟩) ∈ jW := List.mem_of_getElem? (i := 213) (by decide +kernel)
theorem wl214 : (Cond.instanceMethod ⟨"HistoryJudge$Graph", "drawRead", "(LHistoryJudge$History;I)V"⟩) ∈ jW := List.mem_of_getElem? (i := 214) (by decide +kernel)
theorem wl215 : (Cond.code ⟨"HistoryJudge$Graph", "drawRead", "(LHistoryJudge$History;I)V"⟩ prog_3_method_4_code 6 none) ∈ jW := List.mem_of_getElem? (i := 215) (by decide +kernel)
theorem wl216 : (Cond.methodLink "HistoryJudge$Graph" 67 ⟨"HistoryJudge$History", "writerOfNext", "(II)I"⟩) ∈ jW := List.mem_of_getElem? (i := 216) (by decide +kernel)
theorem wl217 : (Cond.instanceMethod ⟨"HistoryJudge$History", "writerOfNext", "(II)I"⟩) ∈ jW := List.mem_of_getElem? (i := 217) (by decide +kernel)
theorem wl218 : (Cond.selects "HistoryJudge$History" ⟨"HistoryJudge$History", "writerOfNext", "(II)I"⟩ ⟨"HistoryJudge$History", "writerOfNext", "(II)I"⟩) ∈ jW := List.mem_of_getElem? (i := 218) (by decide +kernel)
theorem wl219 : (Cond.code ⟨"HistoryJudge$History", "writerOfNext", "(II)I"⟩ prog_4_method_12_code 4 (some FieldType.int)) ∈ jW := List.mem_of_getElem? (i := 219) (by decide +kernel)
theorem wl220 : (Cond.methodLink "HistoryJudge$History" 68 ⟨"HistoryJudge$History", "placeBehind", "(II)I"⟩) ∈ jW := List.mem_of_getElem? (i := 220) (by decide +kernel)
theorem wl221 : (Cond.instanceMethod ⟨"HistoryJudge$History", "placeBehind", "(II)I"⟩) ∈ jW := List.mem_of_getElem? (i := 221) (by decide +kernel)
theorem wl222 : (Cond.code ⟨"HistoryJudge$History", "placeBehind", "(II)I"⟩ prog_4_method_13_code 4 (some FieldType.int)) ∈ jW := List.mem_of_getElem? (i := 222) (by decide +kernel)
theorem wl223 : (Cond.methodLink "HistoryJudge" 100 ⟨"HistoryJudge", "has", "(II)Z"⟩) ∈ jW := List.mem_of_getElem? (i := 223) (by decide +kernel)
theorem wl224 : (Cond.static ⟨"HistoryJudge", "has", "(II)Z"⟩) ∈ jW := List.mem_of_getElem? (i := 224) (by decide +kernel)
theorem wl225 : (Cond.code ⟨"HistoryJudge", "has", "(II)Z"⟩ prog_1_method_20_code 2 (some FieldType.boolean)) ∈ jW := List.mem_of_getElem? (i := 225) (by decide +kernel)
theorem wl226 : (Cond.methodLink "HistoryJudge" 151 ⟨"HistoryJudge", "only", "(I)I"⟩) ∈ jW := List.mem_of_getElem? (i := 226) (by decide +kernel)
theorem wl227 : (Cond.methodLink "HistoryJudgeLaw" 69 ⟨"HistoryJudge", "flaws", "()I"⟩) ∈ jW := List.mem_of_getElem? (i := 227) (by decide +kernel)
theorem wl228 : (Cond.instanceMethod ⟨"HistoryJudge", "flaws", "()I"⟩) ∈ jW := List.mem_of_getElem? (i := 228) (by decide +kernel)
theorem wl229 : (Cond.selects "HistoryJudge" ⟨"HistoryJudge", "flaws", "()I"⟩ ⟨"HistoryJudge", "flaws", "()I"⟩) ∈ jW := List.mem_of_getElem? (i := 229) (by decide +kernel)
theorem wl230 : (Cond.code ⟨"HistoryJudge", "flaws", "()I"⟩ prog_1_method_9_code 1 (some FieldType.int)) ∈ jW := List.mem_of_getElem? (i := 230) (by decide +kernel)
theorem wl231 : (Cond.methodLink "HistoryJudge" 109 ⟨"HistoryJudge$CycleSearch", "find", "(LHistoryJudge$Graph;I)I"⟩) ∈ jW := List.mem_of_getElem? (i := 231) (by decide +kernel)
theorem wl232 : (Cond.instanceMethod ⟨"HistoryJudge$CycleSearch", "find", "(LHistoryJudge$Graph;I)I"⟩) ∈ jW := List.mem_of_getElem? (i := 232) (by decide +kernel)
theorem wl233 : (Cond.selects "HistoryJudge$CycleSearch" ⟨"HistoryJudge$CycleSearch", "find", "(LHistoryJudge$Graph;I)I"⟩ ⟨"HistoryJudge$CycleSearch", "find", "(LHistoryJudge$Graph;I)I"⟩) ∈ jW := List.mem_of_getElem? (i := 233) (by decide +kernel)
theorem wl234 : (Cond.code ⟨"HistoryJudge$CycleSearch", "find", "(LHistoryJudge$Graph;I)I"⟩ prog_2_method_2_code 8 (some FieldType.int)) ∈ jW := List.mem_of_getElem? (i := 234) (by decide +kernel)
theorem wl235 : (Cond.methodLink "HistoryJudge$CycleSearch" 27 ⟨"HistoryJudge$CycleSearch", "sortEdges", "(LHistoryJudge$Graph;I)V"⟩) ∈ jW := List.mem_of_getElem? (i := 235) (by decide +kernel)
theorem wl236 : (Cond.instanceMethod ⟨"HistoryJudge$CycleSearch", "sortEdges", "(LHistoryJudge$Graph;I)V"⟩) ∈ jW := List.mem_of_getElem? (i := 236) (by decide +kernel)
theorem wl237 : (Cond.code ⟨"HistoryJudge$CycleSearch", "sortEdges", "(LHistoryJudge$Graph;I)V"⟩ prog_2_method_3_code 6 none) ∈ jW := List.mem_of_getElem? (i := 237) (by decide +kernel)
theorem wl238 : (Cond.methodLink "HistoryJudge$CycleSearch" 31 ⟨"HistoryJudge$CycleSearch", "measure", "(I)V"⟩) ∈ jW := List.mem_of_getElem? (i := 238) (by decide +kernel)
theorem wl239 : (Cond.instanceMethod ⟨"HistoryJudge$CycleSearch", "measure", "(I)V"⟩) ∈ jW := List.mem_of_getElem? (i := 239) (by decide +kernel)
theorem wl240 : (Cond.code ⟨"HistoryJudge$CycleSearch", "measure", "(I)V"⟩ prog_2_method_4_code 3 none) ∈ jW := List.mem_of_getElem? (i := 240) (by decide +kernel)
theorem wl241 : (Cond.methodLink "HistoryJudge$CycleSearch" 58 ⟨"HistoryJudge$CycleSearch", "leadingInto", "([II)I"⟩) ∈ jW := List.mem_of_getElem? (i := 241) (by decide +kernel)
theorem wl242 : (Cond.static ⟨"HistoryJudge$CycleSearch", "leadingInto", "([II)I"⟩) ∈ jW := List.mem_of_getElem? (i := 242) (by decide +kernel)
theorem wl243 : (Cond.code ⟨"HistoryJudge$CycleSearch", "leadingInto", "([II)I"⟩ prog_2_method_5_code 4 (some FieldType.int)) ∈ jW := List.mem_of_getElem? (i := 243) (by decide +kernel)
theorem wl244 : (Cond.methodLink "HistoryJudge$CycleSearch" 35 ⟨"HistoryJudge$CycleSearch", "shortest", "([II)I"⟩) ∈ jW := List.mem_of_getElem? (i := 244) (by decide +kernel)
theorem wl245 : (Cond.static ⟨"HistoryJudge$CycleSearch", "shortest", "([II)I"⟩) ∈ jW := List.mem_of_getElem? (i := 245) (by decide +kernel)
theorem wl246 : (Cond.code ⟨"HistoryJudge$CycleSearch", "shortest", "([II)I"⟩ prog_2_method_6_code 3 (some FieldType.int)) ∈ jW := List.mem_of_getElem? (i := 246) (by decide +kernel)
theorem wl247 : (Cond.methodLink "HistoryJudge$CycleSearch" 39 ⟨"HistoryJudge$CycleSearch", "trace", "(IIZ)V"⟩) ∈ jW := List.mem_of_getElem? (i := 247) (by decide +kernel)
theorem wl248 : (Cond.instanceMethod ⟨"HistoryJudge$CycleSearch", "trace", "(IIZ)V"⟩) ∈ jW := List.mem_of_getElem? (i := 248) (by decide +kernel)
theorem wl249 : (Cond.code ⟨"HistoryJudge$CycleSearch", "trace", "(IIZ)V"⟩ prog_2_method_7_code 13 none) ∈ jW := List.mem_of_getElem? (i := 249) (by decide +kernel)
theorem wl250 : (Cond.static ⟨"HistoryJudge", "least", "(I)I"⟩) ∈ jW := List.mem_of_getElem? (i := 250) (by decide +kernel)
theorem wl251 : (Cond.code ⟨"HistoryJudge", "least", "(I)I"⟩ prog_1_method_21_code 2 (some FieldType.int)) ∈ jW := List.mem_of_getElem? (i := 251) (by decide +kernel)
theorem wl252 : (Cond.methodLink "HistoryJudge" 113 ⟨"HistoryJudge$History", "hasAbortedRead", "()Z"⟩) ∈ jW := List.mem_of_getElem? (i := 252) (by decide +kernel)
theorem wl253 : (Cond.instanceMethod ⟨"HistoryJudge$History", "hasAbortedRead", "()Z"⟩) ∈ jW := List.mem_of_getElem? (i := 253) (by decide +kernel)
theorem wl254 : (Cond.selects "HistoryJudge$History" ⟨"HistoryJudge$History", "hasAbortedRead", "()Z"⟩ ⟨"HistoryJudge$History", "hasAbortedRead", "()Z"⟩) ∈ jW := List.mem_of_getElem? (i := 254) (by decide +kernel)
theorem wl255 : (Cond.code ⟨"HistoryJudge$History", "hasAbortedRead", "()Z"⟩ prog_4_method_14_code 2 (some FieldType.boolean)) ∈ jW := List.mem_of_getElem? (i := 255) (by decide +kernel)
theorem wl256 : (Cond.methodLink "HistoryJudge$History" 72 ⟨"HistoryJudge$History", "isJudgedRead", "(I)Z"⟩) ∈ jW := List.mem_of_getElem? (i := 256) (by decide +kernel)
theorem wl257 : (Cond.instanceMethod ⟨"HistoryJudge$History", "isJudgedRead", "(I)Z"⟩) ∈ jW := List.mem_of_getElem? (i := 257) (by decide +kernel)
theorem wl258 : (Cond.code ⟨"HistoryJudge$History", "isJudgedRead", "(I)Z"⟩ prog_4_method_16_code 2 (some FieldType.boolean)) ∈ jW := List.mem_of_getElem? (i := 258) (by decide +kernel)
theorem wl259 : (Cond.methodLink "HistoryJudge$History" 60 ⟨"HistoryJudge$History", "isCommitted", "(I)Z"⟩) ∈ jW := List.mem_of_getElem? (i := 259) (by decide +kernel)
theorem wl260 : (Cond.methodLink "HistoryJudge" 117 ⟨"HistoryJudge$History", "hasUnfinishedRead", "()Z"⟩) ∈ jW := List.mem_of_getElem? (i := 260) (by decide +kernel)
theorem wl261 : (Cond.instanceMethod ⟨"HistoryJudge$History", "hasUnfinishedRead", "()Z"⟩) ∈ jW := List.mem_of_getElem? (i := 261) (by decide +kernel)
theorem wl262 : (Cond.selects "HistoryJudge$History" ⟨"HistoryJudge$History", "hasUnfinishedRead", "()Z"⟩ ⟨"HistoryJudge$History", "hasUnfinishedRead", "()Z"⟩) ∈ jW := List.mem_of_getElem? (i := 262) (by decide +kernel)
theorem wl263 : (Cond.code ⟨"HistoryJudge$History", "hasUnfinishedRead", "()Z"⟩ prog_4_method_15_code 2 (some FieldType.boolean)) ∈ jW := List.mem_of_getElem? (i := 263) (by decide +kernel)
theorem wl264 : (Cond.methodLink "HistoryJudge$History" 75 ⟨"HistoryJudge$History", "isOfAnotherCommitted", "(I)Z"⟩) ∈ jW := List.mem_of_getElem? (i := 264) (by decide +kernel)
theorem wl265 : (Cond.instanceMethod ⟨"HistoryJudge$History", "isOfAnotherCommitted", "(I)Z"⟩) ∈ jW := List.mem_of_getElem? (i := 265) (by decide +kernel)
theorem wl266 : (Cond.code ⟨"HistoryJudge$History", "isOfAnotherCommitted", "(I)Z"⟩ prog_4_method_17_code 3 (some FieldType.boolean)) ∈ jW := List.mem_of_getElem? (i := 266) (by decide +kernel)
theorem wl267 : (Cond.methodLink "HistoryJudge$History" 78 ⟨"HistoryJudge$History", "isFinal", "(I)Z"⟩) ∈ jW := List.mem_of_getElem? (i := 267) (by decide +kernel)
theorem wl268 : (Cond.instanceMethod ⟨"HistoryJudge$History", "isFinal", "(I)Z"⟩) ∈ jW := List.mem_of_getElem? (i := 268) (by decide +kernel)
theorem wl269 : (Cond.selects "HistoryJudge$History" ⟨"HistoryJudge$History", "isFinal", "(I)Z"⟩ ⟨"HistoryJudge$History", "isFinal", "(I)Z"⟩) ∈ jW := List.mem_of_getElem? (i := 269) (by decide +kernel)
theorem wl270 : (Cond.code ⟨"HistoryJudge$History", "isFinal", "(I)Z"⟩ prog_4_method_11_code 2 (some FieldType.boolean)) ∈ jW := List.mem_of_getElem? (i := 270) (by decide +kernel)
theorem wl271 : (Cond.methodLink "HistoryJudgeLaw" 73 ⟨"HistoryJudge", "level", "()I"⟩) ∈ jW := List.mem_of_getElem? (i := 271) (by decide +kernel)
theorem wl272 : (Cond.instanceMethod ⟨"HistoryJudge", "level", "()I"⟩) ∈ jW := List.mem_of_getElem? (i := 272) (by decide +kernel)
theorem wl273 : (Cond.selects "HistoryJudge" ⟨"HistoryJudge", "level", "()I"⟩ ⟨"HistoryJudge", "level", "()I"⟩) ∈ jW := List.mem_of_getElem? (i := 273) (by decide +kernel)
theorem wl274 : (Cond.code ⟨"HistoryJudge", "level", "()I"⟩ prog_1_method_10_code 2 (some FieldType.int)) ∈ jW := List.mem_of_getElem? (i := 274) (by decide +kernel)
theorem wl275 : (Cond.methodLink "HistoryJudge" 120 ⟨"HistoryJudge", "flaws", "()I"⟩) ∈ jW := List.mem_of_getElem? (i := 275) (by decide +kernel)
theorem wl276 : (Cond.methodLink "HistoryJudgeLaw" 77 ⟨"HistoryJudge", "cycle", "(I)I"⟩) ∈ jW := List.mem_of_getElem? (i := 276) (by decide +kernel)
theorem wl277 : (Cond.instanceMethod ⟨"HistoryJudge", "cycle", "(I)I"⟩) ∈ jW := List.mem_of_getElem? (i := 277) (by decide +kernel)
theorem wl278 : (Cond.selects "HistoryJudge" ⟨"HistoryJudge", "cycle", "(I)I"⟩ ⟨"HistoryJudge", "cycle", "(I)I"⟩) ∈ jW := List.mem_of_getElem? (i := 278) (by decide +kernel)
theorem wl279 : (Cond.code ⟨"HistoryJudge", "cycle", "(I)I"⟩ prog_1_method_11_code 2 (some FieldType.int)) ∈ jW := List.mem_of_getElem? (i := 279) (by decide +kernel)
theorem wl280 : (Cond.methodLink "HistoryJudgeLaw" 81 ⟨"HistoryJudge", "step", "(II)I"⟩) ∈ jW := List.mem_of_getElem? (i := 280) (by decide +kernel)
theorem wl281 : (Cond.instanceMethod ⟨"HistoryJudge", "step", "(II)I"⟩) ∈ jW := List.mem_of_getElem? (i := 281) (by decide +kernel)
theorem wl282 : (Cond.selects "HistoryJudge" ⟨"HistoryJudge", "step", "(II)I"⟩ ⟨"HistoryJudge", "step", "(II)I"⟩) ∈ jW := List.mem_of_getElem? (i := 282) (by decide +kernel)
theorem wl283 : (Cond.code ⟨"HistoryJudge", "step", "(II)I"⟩ prog_1_method_12_code 4 (some FieldType.int)) ∈ jW := List.mem_of_getElem? (i := 283) (by decide +kernel)
theorem wl284 : (Cond.methodLink "HistoryJudge" 124 ⟨"HistoryJudge", "cycle", "(I)I"⟩) ∈ jW := List.mem_of_getElem? (i := 284) (by decide +kernel)
theorem wl285 : (Cond.methodLink "HistoryJudgeLaw" 85 ⟨"HistoryJudge", "serial", "()Z"⟩) ∈ jW := List.mem_of_getElem? (i := 285) (by decide +kernel)
theorem wl286 : (Cond.instanceMethod ⟨"HistoryJudge", "serial", "()Z"⟩) ∈ jW := List.mem_of_getElem? (i := 286) (by decide +kernel)
theorem wl287 : (Cond.selects "HistoryJudge" ⟨"HistoryJudge", "serial", "()Z"⟩ ⟨"HistoryJudge", "serial", "()Z"⟩) ∈ jW := List.mem_of_getElem? (i := 287) (by decide +kernel)
theorem wl288 : (Cond.code ⟨"HistoryJudge", "serial", "()Z"⟩ prog_1_method_13_code 1 (some FieldType.boolean)) ∈ jW := List.mem_of_getElem? (i := 288) (by decide +kernel)
theorem wl289 : (Cond.methodLink "HistoryJudge" 131 ⟨"HistoryJudge$SerialSearch", "explore", "(LHistoryJudge$History;)V"⟩) ∈ jW := List.mem_of_getElem? (i := 289) (by decide +kernel)
theorem wl290 : (Cond.instanceMethod ⟨"HistoryJudge$SerialSearch", "explore", "(LHistoryJudge$History;)V"⟩) ∈ jW := List.mem_of_getElem? (i := 290) (by decide +kernel)
theorem wl291 : (Cond.selects "HistoryJudge$SerialSearch" ⟨"HistoryJudge$SerialSearch", "explore", "(LHistoryJudge$History;)V"⟩ ⟨"HistoryJudge$SerialSearch", "explore", "(LHistoryJudge$History;)V"⟩) ∈ jW := List.mem_of_getElem? (i := 291) (by decide +kernel)
theorem wl292 : (Cond.code ⟨"HistoryJudge$SerialSearch", "explore", "(LHistoryJudge$History;)V"⟩ prog_5_method_2_code 4 none) ∈ jW := List.mem_of_getElem? (i := 292) (by decide +kernel)
theorem wl293 : (Cond.methodLink "HistoryJudge$SerialSearch" 23 ⟨"HistoryJudge$SerialSearch", "takeReads", "(LHistoryJudge$History;)V"⟩) ∈ jW := List.mem_of_getElem? (i := 293) (by decide +kernel)
theorem wl294 : (Cond.instanceMethod ⟨"HistoryJudge$SerialSearch", "takeReads", "(LHistoryJudge$History;)V"⟩) ∈ jW := List.mem_of_getElem? (i := 294) (by decide +kernel)
theorem wl295 : (Cond.code ⟨"HistoryJudge$SerialSearch", "takeReads", "(LHistoryJudge$History;)V"⟩ prog_5_method_5_code 3 none) ∈ jW := List.mem_of_getElem? (i := 295) (by decide +kernel)
theorem wl296 : (Cond.methodLink "HistoryJudge$SerialSearch" 58 ⟨"HistoryJudge$History", "committedSet", "()I"⟩) ∈ jW := List.mem_of_getElem? (i := 296) (by decide +kernel)
theorem wl297 : (Cond.instanceMethod ⟨"HistoryJudge$History", "committedSet", "()I"⟩) ∈ jW := List.mem_of_getElem? (i := 297) (by decide +kernel)
theorem wl298 : (Cond.selects "HistoryJudge$History" ⟨"HistoryJudge$History", "committedSet", "()I"⟩ ⟨"HistoryJudge$History", "committedSet", "()I"⟩) ∈ jW := List.mem_of_getElem? (i := 298) (by decide +kernel)
theorem wl299 : (Cond.code ⟨"HistoryJudge$History", "committedSet", "()I"⟩ prog_4_method_9_code 3 (some FieldType.int)) ∈ jW := List.mem_of_getElem? (i := 299) (by decide +kernel)
theorem wl300 : (Cond.methodLink "HistoryJudge$SerialSearch" 64 ⟨"java/util/Arrays", "fill", "([II)V"⟩) ∈ jW := List.mem_of_getElem? (i := 300) (by decide +kernel)
theorem wl301 : (Cond.methodLink "HistoryJudge$SerialSearch" 76 ⟨"HistoryJudge$History", "isCommitted", "(I)Z"⟩) ∈ jW := List.mem_of_getElem? (i := 301) (by decide +kernel)
theorem wl302 : (Cond.methodLink "HistoryJudge$SerialSearch" 79 ⟨"HistoryJudge$SerialSearch", "takeRead", "(LHistoryJudge$History;I)V"⟩) ∈ jW := List.mem_of_getElem? (i := 302) (by decide +kernel)
theorem wl303 : (Cond.instanceMethod ⟨"HistoryJudge$SerialSearch", "takeRead", "(LHistoryJudge$History;I)V"⟩) ∈ jW := List.mem_of_getElem? (i := 303) (by decide +kernel)
theorem wl304 : (Cond.code ⟨"HistoryJudge$SerialSearch", "takeRead", "(LHistoryJudge$History;I)V"⟩ prog_5_method_6_code 4 none) ∈ jW := List.mem_of_getElem? (i := 304) (by decide +kernel)
theorem wl305 : (Cond.methodLink "HistoryJudge$SerialSearch" 92 ⟨"HistoryJudge$SerialSearch", "takeFirstRead", "(LHistoryJudge$History;II)V"⟩) ∈ jW := List.mem_of_getElem? (i := 305) (by decide +kernel)
theorem wl306 : (Cond.instanceMethod ⟨"HistoryJudge$SerialSearch", "takeFirstRead", "(LHistoryJudge$History;II)V"⟩) ∈ jW := List.mem_of_getElem? (i := 306) (by decide +kernel)
theorem wl307 : (Cond.code ⟨"HistoryJudge$SerialSearch", "takeFirstRead", "(LHistoryJudge$History;II)V"⟩ prog_5_method_7_code 5 none) ∈ jW := List.mem_of_getElem? (i := 307) (by decide +kernel)
theorem wl308 : (Cond.methodLink "HistoryJudge$SerialSearch" 109 ⟨"HistoryJudge$History", "hasWritten", "(II)Z"⟩) ∈ jW := List.mem_of_getElem? (i := 308) (by decide +kernel)
theorem wl309 : (Cond.instanceMethod ⟨"HistoryJudge$History", "hasWritten", "(II)Z"⟩) ∈ jW := List.mem_of_getElem? (i := 309) (by decide +kernel)
theorem wl310 : (Cond.selects "HistoryJudge$History" ⟨"HistoryJudge$History", "hasWritten", "(II)Z"⟩ ⟨"HistoryJudge$History", "hasWritten", "(II)Z"⟩) ∈ jW := List.mem_of_getElem? (i := 310) (by decide +kernel)
theorem wl311 : (Cond.code ⟨"HistoryJudge$History", "hasWritten", "(II)Z"⟩ prog_4_method_10_code 3 (some FieldType.boolean)) ∈ jW := List.mem_of_getElem? (i := 311) (by decide +kernel)
theorem wl312 : (Cond.methodLink "HistoryJudge$SerialSearch" 99 ⟨"HistoryJudge$History", "isFinal", "(I)Z"⟩) ∈ jW := List.mem_of_getElem? (i := 312) (by decide +kernel)
theorem wl313 : (Cond.methodLink "HistoryJudge$SerialSearch" 102 ⟨"HistoryJudge$SerialSearch", "takeForeignRead", "(LHistoryJudge$History;II)V"⟩) ∈ jW := List.mem_of_getElem? (i := 313) (by decide +kernel)
theorem wl314 : (Cond.instanceMethod ⟨"HistoryJudge$SerialSearch", "takeForeignRead", "(LHistoryJudge$History;II)V"⟩) ∈ jW := List.mem_of_getElem? (i := 314) (by decide +kernel)
theorem wl315 : (Cond.code ⟨"HistoryJudge$SerialSearch", "takeForeignRead", "(LHistoryJudge$History;II)V"⟩ prog_5_method_8_code 7 none) ∈ jW := List.mem_of_getElem? (i := 315) (by decide +kernel)
theorem wl316 : (Cond.methodLink "HistoryJudge$SerialSearch" 35 ⟨"HistoryJudge$SerialSearch", "followers", "(I)I"⟩) ∈ jW := List.mem_of_getElem? (i := 316) (by decide +kernel)
theorem wl317 : (Cond.instanceMethod ⟨"HistoryJudge$SerialSearch", "followers", "(I)I"⟩) ∈ jW := List.mem_of_getElem? (i := 317) (by decide +kernel)
theorem wl318 : (Cond.code ⟨"HistoryJudge$SerialSearch", "followers", "(I)I"⟩ prog_5_method_9_code 5 (some FieldType.int)) ∈ jW := List.mem_of_getElem? (i := 318) (by decide +kernel)
theorem wl319 : (Cond.methodLink "HistoryJudge$SerialSearch" 112 ⟨"HistoryJudge$SerialSearch", "mayFollow", "(II)Z"⟩) ∈ jW := List.mem_of_getElem? (i := 319) (by decide +kernel)
theorem wl320 : (Cond.instanceMethod ⟨"HistoryJudge$SerialSearch", "mayFollow", "(II)Z"⟩) ∈ jW := List.mem_of_getElem? (i := 320) (by decide +kernel)
theorem wl321 : (Cond.code ⟨"HistoryJudge$SerialSearch", "mayFollow", "(II)Z"⟩ prog_5_method_10_code 4 (some FieldType.boolean)) ∈ jW := List.mem_of_getElem? (i := 321) (by decide +kernel)
theorem wl322 : (Cond.methodLink "HistoryJudge$SerialSearch" 39 ⟨"HistoryJudge$SerialSearch", "canBeEnded", "(I)Z"⟩) ∈ jW := List.mem_of_getElem? (i := 322) (by decide +kernel)
theorem wl323 : (Cond.instanceMethod ⟨"HistoryJudge$SerialSearch", "canBeEnded", "(I)Z"⟩) ∈ jW := List.mem_of_getElem? (i := 323) (by decide +kernel)
theorem wl324 : (Cond.code ⟨"HistoryJudge$SerialSearch", "canBeEnded", "(I)Z"⟩ prog_5_method_11_code 2 (some FieldType.boolean)) ∈ jW := List.mem_of_getElem? (i := 324) (by decide +kernel)
theorem wl325 : (Cond.methodLink "HistoryJudge" 134 ⟨"HistoryJudge$SerialSearch", "isPossible", "()Z"⟩) ∈ jW := List.mem_of_getElem? (i := 325) (by decide +kernel)
theorem wl326 : (Cond.instanceMethod ⟨"HistoryJudge$SerialSearch", "isPossible", "()Z"⟩) ∈ jW := List.mem_of_getElem? (i := 326) (by decide +kernel)
theorem wl327 : (Cond.selects "HistoryJudge$SerialSearch" ⟨"HistoryJudge$SerialSearch", "isPossible", "()Z"⟩ ⟨"HistoryJudge$SerialSearch", "isPossible", "()Z"⟩) ∈ jW := List.mem_of_getElem? (i := 327) (by decide +kernel)
theorem wl328 : (Cond.code ⟨"HistoryJudge$SerialSearch", "isPossible", "()Z"⟩ prog_5_method_3_code 1 (some FieldType.boolean)) ∈ jW := List.mem_of_getElem? (i := 328) (by decide +kernel)
theorem wl329 : (Cond.methodLink "HistoryJudgeLaw" 90 ⟨"HistoryJudge", "place", "(I)I"⟩) ∈ jW := List.mem_of_getElem? (i := 329) (by decide +kernel)
theorem wl330 : (Cond.instanceMethod ⟨"HistoryJudge", "place", "(I)I"⟩) ∈ jW := List.mem_of_getElem? (i := 330) (by decide +kernel)
theorem wl331 : (Cond.selects "HistoryJudge" ⟨"HistoryJudge", "place", "(I)I"⟩ ⟨"HistoryJudge", "place", "(I)I"⟩) ∈ jW := List.mem_of_getElem? (i := 331) (by decide +kernel)
theorem wl332 : (Cond.code ⟨"HistoryJudge", "place", "(I)I"⟩ prog_1_method_14_code 2 (some FieldType.int)) ∈ jW := List.mem_of_getElem? (i := 332) (by decide +kernel)
theorem wl333 : (Cond.methodLink "HistoryJudge" 137 ⟨"HistoryJudge$SerialSearch", "transactionAt", "(I)I"⟩) ∈ jW := List.mem_of_getElem? (i := 333) (by decide +kernel)
theorem wl334 : (Cond.instanceMethod ⟨"HistoryJudge$SerialSearch", "transactionAt", "(I)I"⟩) ∈ jW := List.mem_of_getElem? (i := 334) (by decide +kernel)
theorem wl335 : (Cond.selects "HistoryJudge$SerialSearch" ⟨"HistoryJudge$SerialSearch", "transactionAt", "(I)I"⟩ ⟨"HistoryJudge$SerialSearch", "transactionAt", "(I)I"⟩) ∈ jW := List.mem_of_getElem? (i := 335) (by decide +kernel)
theorem wl336 : (Cond.code ⟨"HistoryJudge$SerialSearch", "transactionAt", "(I)I"⟩ prog_5_method_4_code 4 (some FieldType.int)) ∈ jW := List.mem_of_getElem? (i := 336) (by decide +kernel)
theorem wl337 : (Cond.methodLink "HistoryJudge$SerialSearch" 43 ⟨"HistoryJudge$SerialSearch", "isPossible", "()Z"⟩) ∈ jW := List.mem_of_getElem? (i := 337) (by decide +kernel)
theorem wl338 : (Cond.methodLink "HistoryJudge$SerialSearch" 47 ⟨"java/lang/Integer", "bitCount", "(I)I"⟩) ∈ jW := List.mem_of_getElem? (i := 338) (by decide +kernel)
theorem wl339 : (Cond.static ⟨"java/lang/Integer", "bitCount", "(I)I"⟩) ∈ jW := List.mem_of_getElem? (i := 339) (by decide +kernel)
theorem wl340 : (Cond.code ⟨"java/lang/Integer", "bitCount", "(I)I"⟩ prog_11_method_49_code 1 (some FieldType.int)) ∈ jW := List.mem_of_getElem? (i := 340) (by decide +kernel)
theorem wl341 : (Cond.constant "java/lang/Integer" 265 (1431655765 : Int32)) ∈ jW := List.mem_of_getElem? (i := 341) (by decide +kernel)
theorem wl342 : (Cond.constant "java/lang/Integer" 266 (858993459 : Int32)) ∈ jW := List.mem_of_getElem? (i := 342) (by decide +kernel)
theorem wl343 : (Cond.constant "java/lang/Integer" 267 (252645135 : Int32)) ∈ jW := List.mem_of_getElem? (i := 343) (by decide +kernel)
theorem wl344 : (Cond.methodLink "HistoryJudgeLaw" 94 ⟨"HistoryJudge", "beginnings", "()I"⟩) ∈ jW := List.mem_of_getElem? (i := 344) (by decide +kernel)
theorem wl345 : (Cond.instanceMethod ⟨"HistoryJudge", "beginnings", "()I"⟩) ∈ jW := List.mem_of_getElem? (i := 345) (by decide +kernel)
theorem wl346 : (Cond.selects "HistoryJudge" ⟨"HistoryJudge", "beginnings", "()I"⟩ ⟨"HistoryJudge", "beginnings", "()I"⟩) ∈ jW := List.mem_of_getElem? (i := 346) (by decide +kernel)
theorem wl347 : (Cond.code ⟨"HistoryJudge", "beginnings", "()I"⟩ prog_1_method_15_code 1 (some FieldType.int)) ∈ jW := List.mem_of_getElem? (i := 347) (by decide +kernel)
theorem wl348 : (Cond.methodLink "HistoryJudge" 143 ⟨"java/lang/Integer", "bitCount", "(I)I"⟩) ∈ jW := List.mem_of_getElem? (i := 348) (by decide +kernel)
theorem wl349 : (Cond.methodLink "HistoryJudgeLaw" 98 ⟨"HistoryJudge", "clear", "()I"⟩) ∈ jW := List.mem_of_getElem? (i := 349) (by decide +kernel)
theorem wl350 : (Cond.instanceMethod ⟨"HistoryJudge", "clear", "()I"⟩) ∈ jW := List.mem_of_getElem? (i := 350) (by decide +kernel)
theorem wl351 : (Cond.selects "HistoryJudge" ⟨"HistoryJudge", "clear", "()I"⟩ ⟨"HistoryJudge", "clear", "()I"⟩) ∈ jW := List.mem_of_getElem? (i := 351) (by decide +kernel)
theorem wl352 : (Cond.code ⟨"HistoryJudge", "clear", "()I"⟩ prog_1_method_16_code 2 (some FieldType.int)) ∈ jW := List.mem_of_getElem? (i := 352) (by decide +kernel)
theorem wl353 : (Cond.methodLink "HistoryJudge" 148 ⟨"HistoryJudge$History", "reset", "()V"⟩) ∈ jW := List.mem_of_getElem? (i := 353) (by decide +kernel)
theorem wl354 : (Cond.methodLink "HistoryJudgeLaw" 33 ⟨"HistoryJudgeLaw", "write", "(LHistoryJudge;II[J)I"⟩) ∈ jW := List.mem_of_getElem? (i := 354) (by decide +kernel)
theorem wl355 : (Cond.static ⟨"HistoryJudgeLaw", "write", "(LHistoryJudge;II[J)I"⟩) ∈ jW := List.mem_of_getElem? (i := 355) (by decide +kernel)
theorem wl356 : (Cond.classLink "HistoryJudgeLaw" 13 "java/lang/IllegalArgumentException") ∈ jW := List.mem_of_getElem? (i := 356) (by decide +kernel)
theorem wl357 : (Cond.classLink "HistoryJudgeLaw" 15 "java/lang/IllegalStateException") ∈ jW := List.mem_of_getElem? (i := 357) (by decide +kernel)
theorem wl358 : (Cond.classLink "HistoryJudgeLaw" 17 "java/lang/UnsupportedOperationException") ∈ jW := List.mem_of_getElem? (i := 358) (by decide +kernel)
theorem wl359 : (Cond.methodLink "HistoryJudgeLaw" 7 ⟨"HistoryJudge", "write", "(II)I"⟩) ∈ jW := List.mem_of_getElem? (i := 359) (by decide +kernel)
theorem wl360 : (Cond.instanceMethod ⟨"HistoryJudge", "write", "(II)I"⟩) ∈ jW := List.mem_of_getElem? (i := 360) (by decide +kernel)
theorem wl361 : (Cond.selects "HistoryJudge" ⟨"HistoryJudge", "write", "(II)I"⟩ ⟨"HistoryJudge", "write", "(II)I"⟩) ∈ jW := List.mem_of_getElem? (i := 361) (by decide +kernel)
theorem wl362 : (Cond.code ⟨"HistoryJudge", "write", "(II)I"⟩ prog_1_method_2_code 3 (some FieldType.int)) ∈ jW := List.mem_of_getElem? (i := 362) (by decide +kernel)
theorem wl363 : (Cond.classLink "HistoryJudge" 44 "java/lang/IllegalArgumentException") ∈ jW := List.mem_of_getElem? (i := 363) (by decide +kernel)
theorem wl364 : (Cond.instantiable "java/lang/IllegalArgumentException" 6) ∈ jW := List.mem_of_getElem? (i := 364) (by decide +kernel)
theorem wl365 : (Cond.selects "java/lang/IllegalArgumentException" ⟨"java/lang/Throwable", "fillInStackTrace", "(I)Ljava/lang/Throwable;"⟩ ⟨"java/lang/Throwable", "fillInStackTrace", "(I)Ljava/lang/Throwable;"⟩) ∈ jW := List.mem_of_getElem? (i := 365) (by decide +kernel)
theorem wl366 : (Cond.selects "java/lang/IllegalArgumentException" ⟨"java/lang/Throwable", "fillInStackTrace", "()Ljava/lang/Throwable;"⟩ ⟨"java/lang/Throwable", "fillInStackTrace", "()Ljava/lang/Throwable;"⟩) ∈ jW := List.mem_of_getElem? (i := 366) (by decide +kernel)
theorem wl367 : (Cond.lays "java/lang/IllegalArgumentException" "java/lang/Throwable" "cause" "Ljava/lang/Throwable;") ∈ jW := List.mem_of_getElem? (i := 367) (by decide +kernel)
theorem wl368 : (Cond.lays "java/lang/Throwable" "java/lang/Throwable" "cause" "Ljava/lang/Throwable;") ∈ jW := List.mem_of_getElem? (i := 368) (by decide +kernel)
theorem wl369 : (Cond.lays "java/lang/IllegalArgumentException" "java/lang/Throwable" "stackTrace" "[Ljava/lang/StackTraceElement;") ∈ jW := List.mem_of_getElem? (i := 369) (by decide +kernel)
theorem wl370 : (Cond.lays "java/lang/Throwable" "java/lang/Throwable" "stackTrace" "[Ljava/lang/StackTraceElement;") ∈ jW := List.mem_of_getElem? (i := 370) (by decide +kernel)
theorem wl371 : (Cond.lays "java/lang/IllegalArgumentException" "java/lang/Throwable" "suppressedExceptions" "Ljava/util/List;") ∈ jW := List.mem_of_getElem? (i := 371) (by decide +kernel)
theorem wl372 : (Cond.lays "java/lang/Throwable" "java/lang/Throwable" "suppressedExceptions" "Ljava/util/List;") ∈ jW := List.mem_of_getElem? (i := 372) (by decide +kernel)
theorem wl373 : (Cond.lays "java/lang/IllegalArgumentException" "java/lang/Throwable" "detailMessage" "Ljava/lang/String;") ∈ jW := List.mem_of_getElem? (i := 373) (by decide +kernel)
theorem wl374 : (Cond.lays "java/lang/Throwable" "java/lang/Throwable" "detailMessage" "Ljava/lang/String;") ∈ jW := List.mem_of_getElem? (i := 374) (by decide +kernel)
theorem wl375 : (Cond.lays "java/lang/IllegalArgumentException" "java/lang/Throwable" "backtrace" "Ljava/lang/Object;") ∈ jW := List.mem_of_getElem? (i := 375) (by decide +kernel)
theorem wl376 : (Cond.lays "java/lang/Throwable" "java/lang/Throwable" "backtrace" "Ljava/lang/Object;") ∈ jW := List.mem_of_getElem? (i := 376) (by decide +kernel)
theorem wl377 : (Cond.fieldLink "java/lang/Throwable" 198 "java/lang/Throwable" "backtrace" "Ljava/lang/Object;") ∈ jW := List.mem_of_getElem? (i := 377) (by decide +kernel)
theorem wl378 : (Cond.instanceMethod ⟨"java/lang/Throwable", "<init>", "()V"⟩) ∈ jW := List.mem_of_getElem? (i := 378) (by decide +kernel)
theorem wl379 : (Cond.code ⟨"java/lang/Throwable", "<init>", "()V"⟩ prog_13_method_1_code 1 none) ∈ jW := List.mem_of_getElem? (i := 379) (by decide +kernel)
theorem wl380 : (Cond.methodLink "java/lang/Throwable" 1 ⟨"java/lang/Object", "<init>", "()V"⟩) ∈ jW := List.mem_of_getElem? (i := 380) (by decide +kernel)
theorem wl381 : (Cond.fieldLink "java/lang/Throwable" 13 "java/lang/Throwable" "UNASSIGNED_STACK" "[Ljava/lang/StackTraceElement;") ∈ jW := List.mem_of_getElem? (i := 381) (by decide +kernel)
theorem wl382 : (Cond.fieldLink "java/lang/Throwable" 20 "java/lang/Throwable" "SUPPRESSED_SENTINEL" "Ljava/util/List;") ∈ jW := List.mem_of_getElem? (i := 382) (by decide +kernel)
theorem wl383 : (Cond.methodLink "java/lang/Throwable" 27 ⟨"java/lang/Throwable", "fillInStackTrace", "()Ljava/lang/Throwable;"⟩) ∈ jW := List.mem_of_getElem? (i := 383) (by decide +kernel)
theorem wl384 : (Cond.instanceMethod ⟨"java/lang/Throwable", "fillInStackTrace", "()Ljava/lang/Throwable;"⟩) ∈ jW := List.mem_of_getElem? (i := 384) (by decide +kernel)
theorem wl385 : (Cond.selects "java/lang/IllegalStateException" ⟨"java/lang/Throwable", "fillInStackTrace", "()Ljava/lang/Throwable;"⟩ ⟨"java/lang/Throwable", "fillInStackTrace", "()Ljava/lang/Throwable;"⟩) ∈ jW := List.mem_of_getElem? (i := 385) (by decide +kernel)
theorem wl386 : (Cond.selects "java/lang/UnsupportedOperationException" ⟨"java/lang/Throwable", "fillInStackTrace", "()Ljava/lang/Throwable;"⟩ ⟨"java/lang/Throwable", "fillInStackTrace", "()Ljava/lang/Throwable;"⟩) ∈ jW := List.mem_of_getElem? (i := 386) (by decide +kernel)
theorem wl387 : (Cond.selects "java/util/NoSuchElementException" ⟨"java/lang/Throwable", "fillInStackTrace", "()Ljava/lang/Throwable;"⟩ ⟨"java/lang/Throwable", "fillInStackTrace", "()Ljava/lang/Throwable;"⟩) ∈ jW := List.mem_of_getElem? (i := 387) (by decide +kernel)
theorem wl388 : (Cond.methodLink "java/lang/Throwable" 202 ⟨"java/lang/Throwable", "fillInStackTrace", "(I)Ljava/lang/Throwable;"⟩) ∈ jW := List.mem_of_getElem? (i := 388) (by decide +kernel)
theorem wl389 : (Cond.instanceMethod ⟨"java/lang/Throwable", "fillInStackTrace", "(I)Ljava/lang/Throwable;"⟩) ∈ jW := List.mem_of_getElem? (i := 389) (by decide +kernel)
theorem wl390 : (Cond.instantiable "java/lang/Throwable" 6) ∈ jW := List.mem_of_getElem? (i := 390) (by decide +kernel)
theorem wl391 : (Cond.methodLink "HistoryJudge" 46 ⟨"java/lang/IllegalArgumentException", "<init>", "()V"⟩) ∈ jW := List.mem_of_getElem? (i := 391) (by decide +kernel)
theorem wl392 : (Cond.instanceMethod ⟨"java/lang/IllegalArgumentException", "<init>", "()V"⟩) ∈ jW := List.mem_of_getElem? (i := 392) (by decide +kernel)
theorem wl393 : (Cond.code ⟨"java/lang/IllegalArgumentException", "<init>", "()V"⟩ prog_9_method_1_code 1 none) ∈ jW := List.mem_of_getElem? (i := 393) (by decide +kernel)
theorem wl394 : (Cond.methodLink "java/lang/IllegalArgumentException" 1 ⟨"java/lang/RuntimeException", "<init>", "()V"⟩) ∈ jW := List.mem_of_getElem? (i := 394) (by decide +kernel)
theorem wl395 : (Cond.instanceMethod ⟨"java/lang/RuntimeException", "<init>", "()V"⟩) ∈ jW := List.mem_of_getElem? (i := 395) (by decide +kernel)
theorem wl396 : (Cond.code ⟨"java/lang/RuntimeException", "<init>", "()V"⟩ prog_12_method_1_code 1 none) ∈ jW := List.mem_of_getElem? (i := 396) (by decide +kernel)
theorem wl397 : (Cond.methodLink "java/lang/RuntimeException" 1 ⟨"java/lang/Exception", "<init>", "()V"⟩) ∈ jW := List.mem_of_getElem? (i := 397) (by decide +kernel)
theorem wl398 : (Cond.instanceMethod ⟨"java/lang/Exception", "<init>", "()V"⟩) ∈ jW := List.mem_of_getElem? (i := 398) (by decide +kernel)
theorem wl399 : (Cond.code ⟨"java/lang/Exception", "<init>", "()V"⟩ prog_8_method_1_code 1 none) ∈ jW := List.mem_of_getElem? (i := 399) (by decide +kernel)
theorem wl400 : (Cond.methodLink "java/lang/Exception" 1 ⟨"java/lang/Throwable", "<init>", "()V"⟩) ∈ jW := List.mem_of_getElem? (i := 400) (by decide +kernel)
theorem wl401 : (Cond.fieldLink "java/lang/Throwable" 7 "java/lang/Throwable" "cause" "Ljava/lang/Throwable;") ∈ jW := List.mem_of_getElem? (i := 401) (by decide +kernel)
theorem wl402 : (Cond.fieldLink "java/lang/Throwable" 17 "java/lang/Throwable" "stackTrace" "[Ljava/lang/StackTraceElement;") ∈ jW := List.mem_of_getElem? (i := 402) (by decide +kernel)
theorem wl403 : (Cond.fieldLink "java/lang/Throwable" 24 "java/lang/Throwable" "suppressedExceptions" "Ljava/util/List;") ∈ jW := List.mem_of_getElem? (i := 403) (by decide +kernel)
theorem wl404 : (Cond.lays "java/lang/IllegalArgumentException" "java/lang/Throwable" "depth" "I") ∈ jW := List.mem_of_getElem? (i := 404) (by decide +kernel)
theorem wl405 : (Cond.methodLink "HistoryJudge" 47 ⟨"HistoryJudge$History", "hasEnded", "(I)Z"⟩) ∈ jW := List.mem_of_getElem? (i := 405) (by decide +kernel)
theorem wl406 : (Cond.instanceMethod ⟨"HistoryJudge$History", "hasEnded", "(I)Z"⟩) ∈ jW := List.mem_of_getElem? (i := 406) (by decide +kernel)
theorem wl407 : (Cond.selects "HistoryJudge$History" ⟨"HistoryJudge$History", "hasEnded", "(I)Z"⟩ ⟨"HistoryJudge$History", "hasEnded", "(I)Z"⟩) ∈ jW := List.mem_of_getElem? (i := 407) (by decide +kernel)
theorem wl408 : (Cond.code ⟨"HistoryJudge$History", "hasEnded", "(I)Z"⟩ prog_4_method_3_code 2 (some FieldType.boolean)) ∈ jW := List.mem_of_getElem? (i := 408) (by decide +kernel)
theorem wl409 : (Cond.classLink "HistoryJudge" 50 "java/lang/IllegalStateException") ∈ jW := List.mem_of_getElem? (i := 409) (by decide +kernel)
theorem wl410 : (Cond.instantiable "java/lang/IllegalStateException" 6) ∈ jW := List.mem_of_getElem? (i := 410) (by decide +kernel)
theorem wl411 : (Cond.selects "java/lang/IllegalStateException" ⟨"java/lang/Throwable", "fillInStackTrace", "(I)Ljava/lang/Throwable;"⟩ ⟨"java/lang/Throwable", "fillInStackTrace", "(I)Ljava/lang/Throwable;"⟩) ∈ jW := List.mem_of_getElem? (i := 411) (by decide +kernel)
theorem wl412 : (Cond.lays "java/lang/IllegalStateException" "java/lang/Throwable" "cause" "Ljava/lang/Throwable;") ∈ jW := List.mem_of_getElem? (i := 412) (by decide +kernel)
theorem wl413 : (Cond.lays "java/lang/IllegalStateException" "java/lang/Throwable" "stackTrace" "[Ljava/lang/StackTraceElement;") ∈ jW := List.mem_of_getElem? (i := 413) (by decide +kernel)
theorem wl414 : (Cond.lays "java/lang/IllegalStateException" "java/lang/Throwable" "suppressedExceptions" "Ljava/util/List;") ∈ jW := List.mem_of_getElem? (i := 414) (by decide +kernel)
theorem wl415 : (Cond.lays "java/lang/IllegalStateException" "java/lang/Throwable" "detailMessage" "Ljava/lang/String;") ∈ jW := List.mem_of_getElem? (i := 415) (by decide +kernel)
theorem wl416 : (Cond.lays "java/lang/IllegalStateException" "java/lang/Throwable" "backtrace" "Ljava/lang/Object;") ∈ jW := List.mem_of_getElem? (i := 416) (by decide +kernel)
theorem wl417 : (Cond.methodLink "HistoryJudge" 52 ⟨"java/lang/IllegalStateException", "<init>", "()V"⟩) ∈ jW := List.mem_of_getElem? (i := 417) (by decide +kernel)
theorem wl418 : (Cond.instanceMethod ⟨"java/lang/IllegalStateException", "<init>", "()V"⟩) ∈ jW := List.mem_of_getElem? (i := 418) (by decide +kernel)
theorem wl419 : (Cond.code ⟨"java/lang/IllegalStateException", "<init>", "()V"⟩ prog_10_method_1_code 1 none) ∈ jW := List.mem_of_getElem? (i := 419) (by decide +kernel)
theorem wl420 : (Cond.methodLink "java/lang/IllegalStateException" 1 ⟨"java/lang/RuntimeException", "<init>", "()V"⟩) ∈ jW := List.mem_of_getElem? (i := 420) (by decide +kernel)
theorem wl421 : (Cond.lays "java/lang/IllegalStateException" "java/lang/Throwable" "depth" "I") ∈ jW := List.mem_of_getElem? (i := 421) (by decide +kernel)
theorem wl422 : (Cond.classLink "HistoryJudge" 57 "java/lang/UnsupportedOperationException") ∈ jW := List.mem_of_getElem? (i := 422) (by decide +kernel)
theorem wl423 : (Cond.instantiable "java/lang/UnsupportedOperationException" 6) ∈ jW := List.mem_of_getElem? (i := 423) (by decide +kernel)
theorem wl424 : (Cond.selects "java/lang/UnsupportedOperationException" ⟨"java/lang/Throwable", "fillInStackTrace", "(I)Ljava/lang/Throwable;"⟩ ⟨"java/lang/Throwable", "fillInStackTrace", "(I)Ljava/lang/Throwable;"⟩) ∈ jW := List.mem_of_getElem? (i := 424) (by decide +kernel)
theorem wl425 : (Cond.lays "java/lang/UnsupportedOperationException" "java/lang/Throwable" "cause" "Ljava/lang/Throwable;") ∈ jW := List.mem_of_getElem? (i := 425) (by decide +kernel)
theorem wl426 : (Cond.lays "java/lang/UnsupportedOperationException" "java/lang/Throwable" "stackTrace" "[Ljava/lang/StackTraceElement;") ∈ jW := List.mem_of_getElem? (i := 426) (by decide +kernel)
theorem wl427 : (Cond.lays "java/lang/UnsupportedOperationException" "java/lang/Throwable" "suppressedExceptions" "Ljava/util/List;") ∈ jW := List.mem_of_getElem? (i := 427) (by decide +kernel)
theorem wl428 : (Cond.lays "java/lang/UnsupportedOperationException" "java/lang/Throwable" "detailMessage" "Ljava/lang/String;") ∈ jW := List.mem_of_getElem? (i := 428) (by decide +kernel)
theorem wl429 : (Cond.lays "java/lang/UnsupportedOperationException" "java/lang/Throwable" "backtrace" "Ljava/lang/Object;") ∈ jW := List.mem_of_getElem? (i := 429) (by decide +kernel)
theorem wl430 : (Cond.methodLink "HistoryJudge" 59 ⟨"java/lang/UnsupportedOperationException", "<init>", "()V"⟩) ∈ jW := List.mem_of_getElem? (i := 430) (by decide +kernel)
theorem wl431 : (Cond.instanceMethod ⟨"java/lang/UnsupportedOperationException", "<init>", "()V"⟩) ∈ jW := List.mem_of_getElem? (i := 431) (by decide +kernel)
theorem wl432 : (Cond.code ⟨"java/lang/UnsupportedOperationException", "<init>", "()V"⟩ prog_14_method_1_code 1 none) ∈ jW := List.mem_of_getElem? (i := 432) (by decide +kernel)
theorem wl433 : (Cond.methodLink "java/lang/UnsupportedOperationException" 1 ⟨"java/lang/RuntimeException", "<init>", "()V"⟩) ∈ jW := List.mem_of_getElem? (i := 433) (by decide +kernel)
theorem wl434 : (Cond.lays "java/lang/UnsupportedOperationException" "java/lang/Throwable" "depth" "I") ∈ jW := List.mem_of_getElem? (i := 434) (by decide +kernel)
theorem wl435 : (Cond.methodLink "HistoryJudge" 60 ⟨"HistoryJudge$History", "addVersion", "(II)I"⟩) ∈ jW := List.mem_of_getElem? (i := 435) (by decide +kernel)
theorem wl436 : (Cond.instanceMethod ⟨"HistoryJudge$History", "addVersion", "(II)I"⟩) ∈ jW := List.mem_of_getElem? (i := 436) (by decide +kernel)
theorem wl437 : (Cond.selects "HistoryJudge$History" ⟨"HistoryJudge$History", "addVersion", "(II)I"⟩ ⟨"HistoryJudge$History", "addVersion", "(II)I"⟩) ∈ jW := List.mem_of_getElem? (i := 437) (by decide +kernel)
theorem wl438 : (Cond.code ⟨"HistoryJudge$History", "addVersion", "(II)I"⟩ prog_4_method_6_code 4 (some FieldType.int)) ∈ jW := List.mem_of_getElem? (i := 438) (by decide +kernel)
theorem wl439 : (Cond.methodLink "HistoryJudgeLaw" 43 ⟨"HistoryJudgeLaw", "read", "(LHistoryJudge;III[J)I"⟩) ∈ jW := List.mem_of_getElem? (i := 439) (by decide +kernel)
theorem wl440 : (Cond.static ⟨"HistoryJudgeLaw", "read", "(LHistoryJudge;III[J)I"⟩) ∈ jW := List.mem_of_getElem? (i := 440) (by decide +kernel)
theorem wl441 : (Cond.classLink "HistoryJudgeLaw" 23 "java/util/NoSuchElementException") ∈ jW := List.mem_of_getElem? (i := 441) (by decide +kernel)
theorem wl442 : (Cond.methodLink "HistoryJudgeLaw" 19 ⟨"HistoryJudge", "read", "(III)I"⟩) ∈ jW := List.mem_of_getElem? (i := 442) (by decide +kernel)
theorem wl443 : (Cond.instanceMethod ⟨"HistoryJudge", "read", "(III)I"⟩) ∈ jW := List.mem_of_getElem? (i := 443) (by decide +kernel)
theorem wl444 : (Cond.selects "HistoryJudge" ⟨"HistoryJudge", "read", "(III)I"⟩ ⟨"HistoryJudge", "read", "(III)I"⟩) ∈ jW := List.mem_of_getElem? (i := 444) (by decide +kernel)
theorem wl445 : (Cond.code ⟨"HistoryJudge", "read", "(III)I"⟩ prog_1_method_3_code 4 (some FieldType.int)) ∈ jW := List.mem_of_getElem? (i := 445) (by decide +kernel)
theorem wl446 : (Cond.methodLink "HistoryJudge" 64 ⟨"HistoryJudge$History", "hasVersion", "(II)Z"⟩) ∈ jW := List.mem_of_getElem? (i := 446) (by decide +kernel)
theorem wl447 : (Cond.instanceMethod ⟨"HistoryJudge$History", "hasVersion", "(II)Z"⟩) ∈ jW := List.mem_of_getElem? (i := 447) (by decide +kernel)
theorem wl448 : (Cond.selects "HistoryJudge$History" ⟨"HistoryJudge$History", "hasVersion", "(II)Z"⟩ ⟨"HistoryJudge$History", "hasVersion", "(II)Z"⟩) ∈ jW := List.mem_of_getElem? (i := 448) (by decide +kernel)
theorem wl449 : (Cond.code ⟨"HistoryJudge$History", "hasVersion", "(II)Z"⟩ prog_4_method_5_code 3 (some FieldType.boolean)) ∈ jW := List.mem_of_getElem? (i := 449) (by decide +kernel)
theorem wl450 : (Cond.classLink "HistoryJudge" 68 "java/util/NoSuchElementException") ∈ jW := List.mem_of_getElem? (i := 450) (by decide +kernel)
theorem wl451 : (Cond.instantiable "java/util/NoSuchElementException" 6) ∈ jW := List.mem_of_getElem? (i := 451) (by decide +kernel)
theorem wl452 : (Cond.selects "java/util/NoSuchElementException" ⟨"java/lang/Throwable", "fillInStackTrace", "(I)Ljava/lang/Throwable;"⟩ ⟨"java/lang/Throwable", "fillInStackTrace", "(I)Ljava/lang/Throwable;"⟩) ∈ jW := List.mem_of_getElem? (i := 452) (by decide +kernel)
theorem wl453 : (Cond.lays "java/util/NoSuchElementException" "java/lang/Throwable" "cause" "Ljava/lang/Throwable;") ∈ jW := List.mem_of_getElem? (i := 453) (by decide +kernel)
theorem wl454 : (Cond.lays "java/util/NoSuchElementException" "java/lang/Throwable" "stackTrace" "[Ljava/lang/StackTraceElement;") ∈ jW := List.mem_of_getElem? (i := 454) (by decide +kernel)
theorem wl455 : (Cond.lays "java/util/NoSuchElementException" "java/lang/Throwable" "suppressedExceptions" "Ljava/util/List;") ∈ jW := List.mem_of_getElem? (i := 455) (by decide +kernel)
theorem wl456 : (Cond.lays "java/util/NoSuchElementException" "java/lang/Throwable" "detailMessage" "Ljava/lang/String;") ∈ jW := List.mem_of_getElem? (i := 456) (by decide +kernel)
theorem wl457 : (Cond.lays "java/util/NoSuchElementException" "java/lang/Throwable" "backtrace" "Ljava/lang/Object;") ∈ jW := List.mem_of_getElem? (i := 457) (by decide +kernel)
theorem wl458 : (Cond.methodLink "HistoryJudge" 70 ⟨"java/util/NoSuchElementException", "<init>", "()V"⟩) ∈ jW := List.mem_of_getElem? (i := 458) (by decide +kernel)
theorem wl459 : (Cond.instanceMethod ⟨"java/util/NoSuchElementException", "<init>", "()V"⟩) ∈ jW := List.mem_of_getElem? (i := 459) (by decide +kernel)
theorem wl460 : (Cond.code ⟨"java/util/NoSuchElementException", "<init>", "()V"⟩ prog_16_method_1_code 1 none) ∈ jW := List.mem_of_getElem? (i := 460) (by decide +kernel)
theorem wl461 : (Cond.methodLink "java/util/NoSuchElementException" 1 ⟨"java/lang/RuntimeException", "<init>", "()V"⟩) ∈ jW := List.mem_of_getElem? (i := 461) (by decide +kernel)
theorem wl462 : (Cond.lays "java/util/NoSuchElementException" "java/lang/Throwable" "depth" "I") ∈ jW := List.mem_of_getElem? (i := 462) (by decide +kernel)
theorem wl463 : (Cond.methodLink "HistoryJudge" 74 ⟨"HistoryJudge$History", "addRead", "(III)I"⟩) ∈ jW := List.mem_of_getElem? (i := 463) (by decide +kernel)
theorem wl464 : (Cond.instanceMethod ⟨"HistoryJudge$History", "addRead", "(III)I"⟩) ∈ jW := List.mem_of_getElem? (i := 464) (by decide +kernel)
theorem wl465 : (Cond.selects "HistoryJudge$History" ⟨"HistoryJudge$History", "addRead", "(III)I"⟩ ⟨"HistoryJudge$History", "addRead", "(III)I"⟩) ∈ jW := List.mem_of_getElem? (i := 465) (by decide +kernel)
theorem wl466 : (Cond.code ⟨"HistoryJudge$History", "addRead", "(III)I"⟩ prog_4_method_7_code 4 (some FieldType.int)) ∈ jW := List.mem_of_getElem? (i := 466) (by decide +kernel)
theorem wl467 : (Cond.methodLink "HistoryJudgeLaw" 47 ⟨"HistoryJudgeLaw", "end", "(LHistoryJudge;IZ)I"⟩) ∈ jW := List.mem_of_getElem? (i := 467) (by decide +kernel)
theorem wl468 : (Cond.static ⟨"HistoryJudgeLaw", "end", "(LHistoryJudge;IZ)I"⟩) ∈ jW := List.mem_of_getElem? (i := 468) (by decide +kernel)
theorem wl469 : (Cond.methodLink "HistoryJudgeLaw" 25 ⟨"HistoryJudge", "end", "(IZ)V"⟩) ∈ jW := List.mem_of_getElem? (i := 469) (by decide +kernel)
theorem wl470 : (Cond.instanceMethod ⟨"HistoryJudge", "end", "(IZ)V"⟩) ∈ jW := List.mem_of_getElem? (i := 470) (by decide +kernel)
theorem wl471 : (Cond.selects "HistoryJudge" ⟨"HistoryJudge", "end", "(IZ)V"⟩ ⟨"HistoryJudge", "end", "(IZ)V"⟩) ∈ jW := List.mem_of_getElem? (i := 471) (by decide +kernel)
theorem wl472 : (Cond.code ⟨"HistoryJudge", "end", "(IZ)V"⟩ prog_1_method_4_code 3 none) ∈ jW := List.mem_of_getElem? (i := 472) (by decide +kernel)
theorem wl473 : (Cond.methodLink "HistoryJudge" 82 ⟨"HistoryJudge$History", "commit", "(I)V"⟩) ∈ jW := List.mem_of_getElem? (i := 473) (by decide +kernel)
theorem wl474 : (Cond.instanceMethod ⟨"HistoryJudge$History", "commit", "(I)V"⟩) ∈ jW := List.mem_of_getElem? (i := 474) (by decide +kernel)
theorem wl475 : (Cond.selects "HistoryJudge$History" ⟨"HistoryJudge$History", "commit", "(I)V"⟩ ⟨"HistoryJudge$History", "commit", "(I)V"⟩) ∈ jW := List.mem_of_getElem? (i := 475) (by decide +kernel)
theorem wl476 : (Cond.code ⟨"HistoryJudge$History", "commit", "(I)V"⟩ prog_4_method_8_code 3 none) ∈ jW := List.mem_of_getElem? (i := 476) (by decide +kernel)
theorem wl477 : (Cond.classLink "HistoryJudgeLaw" 30 "HistoryJudgeModel") ∈ jW := List.mem_of_getElem? (i := 477) (by decide +kernel)
theorem wl478 : (Cond.instantiable "HistoryJudgeModel" 18) ∈ jW := List.mem_of_getElem? (i := 478) (by decide +kernel)
theorem wl479 : (Cond.methodLink "HistoryJudgeLaw" 32 ⟨"HistoryJudgeModel", "<init>", "()V"⟩) ∈ jW := List.mem_of_getElem? (i := 479) (by decide +kernel)
theorem wl480 : (Cond.instanceMethod ⟨"HistoryJudgeModel", "<init>", "()V"⟩) ∈ jW := List.mem_of_getElem? (i := 480) (by decide +kernel)
theorem wl481 : (Cond.code ⟨"HistoryJudgeModel", "<init>", "()V"⟩ prog_7_method_1_code 1 none) ∈ jW := List.mem_of_getElem? (i := 481) (by decide +kernel)
theorem wl482 : (Cond.methodLink "HistoryJudgeModel" 1 ⟨"java/lang/Object", "<init>", "()V"⟩) ∈ jW := List.mem_of_getElem? (i := 482) (by decide +kernel)
theorem wl483 : (Cond.fieldLink "HistoryJudgeModel" 50 "HistoryJudgeModel" "code" "I") ∈ jW := List.mem_of_getElem? (i := 483) (by decide +kernel)
theorem wl484 : (Cond.fieldLink "HistoryJudgeModel" 7 "HistoryJudgeModel" "states" "[I") ∈ jW := List.mem_of_getElem? (i := 484) (by decide +kernel)
theorem wl485 : (Cond.fieldLink "HistoryJudgeModel" 64 "HistoryJudgeModel" "versions" "I") ∈ jW := List.mem_of_getElem? (i := 485) (by decide +kernel)
theorem wl486 : (Cond.fieldLink "HistoryJudgeModel" 13 "HistoryJudgeModel" "writer" "[I") ∈ jW := List.mem_of_getElem? (i := 486) (by decide +kernel)
theorem wl487 : (Cond.fieldLink "HistoryJudgeModel" 16 "HistoryJudgeModel" "itemOf" "[I") ∈ jW := List.mem_of_getElem? (i := 487) (by decide +kernel)
theorem wl488 : (Cond.fieldLink "HistoryJudgeModel" 75 "HistoryJudgeModel" "reads" "I") ∈ jW := List.mem_of_getElem? (i := 488) (by decide +kernel)
theorem wl489 : (Cond.fieldLink "HistoryJudgeModel" 54 "HistoryJudgeModel" "events" "I") ∈ jW := List.mem_of_getElem? (i := 489) (by decide +kernel)
theorem wl490 : (Cond.fieldLink "HistoryJudgeModel" 19 "HistoryJudgeModel" "who" "[I") ∈ jW := List.mem_of_getElem? (i := 490) (by decide +kernel)
theorem wl491 : (Cond.fieldLink "HistoryJudgeModel" 22 "HistoryJudgeModel" "what" "[I") ∈ jW := List.mem_of_getElem? (i := 491) (by decide +kernel)
theorem wl492 : (Cond.fieldLink "HistoryJudgeModel" 25 "HistoryJudgeModel" "which" "[I") ∈ jW := List.mem_of_getElem? (i := 492) (by decide +kernel)
theorem wl493 : (Cond.fieldLink "HistoryJudgeModel" 28 "HistoryJudgeModel" "writes" "[Z") ∈ jW := List.mem_of_getElem? (i := 493) (by decide +kernel)
theorem wl494 : (Cond.fieldLink "HistoryJudgeModel" 32 "HistoryJudgeModel" "lengths" "[I") ∈ jW := List.mem_of_getElem? (i := 494) (by decide +kernel)
theorem wl495 : (Cond.fieldLink "HistoryJudgeModel" 35 "HistoryJudgeModel" "order" "[I") ∈ jW := List.mem_of_getElem? (i := 495) (by decide +kernel)
theorem wl496 : (Cond.fieldLink "HistoryJudgeModel" 38 "HistoryJudgeModel" "drawn" "[I") ∈ jW := List.mem_of_getElem? (i := 496) (by decide +kernel)
theorem wl497 : (Cond.fieldLink "HistoryJudgeModel" 41 "HistoryJudgeModel" "row" "[I") ∈ jW := List.mem_of_getElem? (i := 497) (by decide +kernel)
theorem wl498 : (Cond.fieldLink "HistoryJudgeModel" 44 "HistoryJudgeModel" "tries" "[I") ∈ jW := List.mem_of_getElem? (i := 498) (by decide +kernel)
theorem wl499 : (Cond.fieldLink "HistoryJudgeModel" 133 "HistoryJudgeModel" "size" "I") ∈ jW := List.mem_of_getElem? (i := 499) (by decide +kernel)
theorem wl500 : (Cond.fieldLink "HistoryJudgeModel" 47 "HistoryJudgeModel" "latest" "[I") ∈ jW := List.mem_of_getElem? (i := 500) (by decide +kernel)
theorem wl501 : (Cond.lays "HistoryJudgeModel" "HistoryJudgeModel" "code" "I") ∈ jW := List.mem_of_getElem? (i := 501) (by decide +kernel)
theorem wl502 : (Cond.laysFinal "HistoryJudgeModel" "HistoryJudgeModel" "states" "[I") ∈ jW := List.mem_of_getElem? (i := 502) (by decide +kernel)
theorem wl503 : (Cond.lays "HistoryJudgeModel" "HistoryJudgeModel" "versions" "I") ∈ jW := List.mem_of_getElem? (i := 503) (by decide +kernel)
theorem wl504 : (Cond.laysFinal "HistoryJudgeModel" "HistoryJudgeModel" "writer" "[I") ∈ jW := List.mem_of_getElem? (i := 504) (by decide +kernel)
theorem wl505 : (Cond.laysFinal "HistoryJudgeModel" "HistoryJudgeModel" "itemOf" "[I") ∈ jW := List.mem_of_getElem? (i := 505) (by decide +kernel)
theorem wl506 : (Cond.lays "HistoryJudgeModel" "HistoryJudgeModel" "reads" "I") ∈ jW := List.mem_of_getElem? (i := 506) (by decide +kernel)
theorem wl507 : (Cond.lays "HistoryJudgeModel" "HistoryJudgeModel" "events" "I") ∈ jW := List.mem_of_getElem? (i := 507) (by decide +kernel)
theorem wl508 : (Cond.laysFinal "HistoryJudgeModel" "HistoryJudgeModel" "who" "[I") ∈ jW := List.mem_of_getElem? (i := 508) (by decide +kernel)
theorem wl509 : (Cond.laysFinal "HistoryJudgeModel" "HistoryJudgeModel" "what" "[I") ∈ jW := List.mem_of_getElem? (i := 509) (by decide +kernel)
theorem wl510 : (Cond.laysFinal "HistoryJudgeModel" "HistoryJudgeModel" "which" "[I") ∈ jW := List.mem_of_getElem? (i := 510) (by decide +kernel)
theorem wl511 : (Cond.laysFinal "HistoryJudgeModel" "HistoryJudgeModel" "writes" "[Z") ∈ jW := List.mem_of_getElem? (i := 511) (by decide +kernel)
theorem wl512 : (Cond.laysFinal "HistoryJudgeModel" "HistoryJudgeModel" "lengths" "[I") ∈ jW := List.mem_of_getElem? (i := 512) (by decide +kernel)
theorem wl513 : (Cond.laysFinal "HistoryJudgeModel" "HistoryJudgeModel" "order" "[I") ∈ jW := List.mem_of_getElem? (i := 513) (by decide +kernel)
theorem wl514 : (Cond.laysFinal "HistoryJudgeModel" "HistoryJudgeModel" "drawn" "[I") ∈ jW := List.mem_of_getElem? (i := 514) (by decide +kernel)
theorem wl515 : (Cond.laysFinal "HistoryJudgeModel" "HistoryJudgeModel" "row" "[I") ∈ jW := List.mem_of_getElem? (i := 515) (by decide +kernel)
theorem wl516 : (Cond.laysFinal "HistoryJudgeModel" "HistoryJudgeModel" "tries" "[I") ∈ jW := List.mem_of_getElem? (i := 516) (by decide +kernel)
theorem wl517 : (Cond.lays "HistoryJudgeModel" "HistoryJudgeModel" "size" "I") ∈ jW := List.mem_of_getElem? (i := 517) (by decide +kernel)
theorem wl518 : (Cond.laysFinal "HistoryJudgeModel" "HistoryJudgeModel" "latest" "[I") ∈ jW := List.mem_of_getElem? (i := 518) (by decide +kernel)
theorem wl519 : (Cond.arrayClass FieldType.boolean) ∈ jW := List.mem_of_getElem? (i := 519) (by decide +kernel)
theorem wl520 : (Cond.methodLink "HistoryJudgeLaw" 39 ⟨"HistoryJudgeModel", "thrown", "()I"⟩) ∈ jW := List.mem_of_getElem? (i := 520) (by decide +kernel)
theorem wl521 : (Cond.instanceMethod ⟨"HistoryJudgeModel", "thrown", "()I"⟩) ∈ jW := List.mem_of_getElem? (i := 521) (by decide +kernel)
theorem wl522 : (Cond.selects "HistoryJudgeModel" ⟨"HistoryJudgeModel", "thrown", "()I"⟩ ⟨"HistoryJudgeModel", "thrown", "()I"⟩) ∈ jW := List.mem_of_getElem? (i := 522) (by decide +kernel)
theorem wl523 : (Cond.code ⟨"HistoryJudgeModel", "thrown", "()I"⟩ prog_7_method_2_code 1 (some FieldType.int)) ∈ jW := List.mem_of_getElem? (i := 523) (by decide +kernel)
theorem wl524 : (Cond.methodLink "HistoryJudgeLaw" 38 ⟨"HistoryJudgeModel", "write", "(II)I"⟩) ∈ jW := List.mem_of_getElem? (i := 524) (by decide +kernel)
theorem wl525 : (Cond.instanceMethod ⟨"HistoryJudgeModel", "write", "(II)I"⟩) ∈ jW := List.mem_of_getElem? (i := 525) (by decide +kernel)
theorem wl526 : (Cond.selects "HistoryJudgeModel" ⟨"HistoryJudgeModel", "write", "(II)I"⟩ ⟨"HistoryJudgeModel", "write", "(II)I"⟩) ∈ jW := List.mem_of_getElem? (i := 526) (by decide +kernel)
theorem wl527 : (Cond.code ⟨"HistoryJudgeModel", "write", "(II)I"⟩ prog_7_method_6_code 3 (some FieldType.int)) ∈ jW := List.mem_of_getElem? (i := 527) (by decide +kernel)
theorem wl528 : (Cond.methodLink "HistoryJudgeModel" 57 ⟨"HistoryJudgeModel", "isOne", "(I)Z"⟩) ∈ jW := List.mem_of_getElem? (i := 528) (by decide +kernel)
theorem wl529 : (Cond.static ⟨"HistoryJudgeModel", "isOne", "(I)Z"⟩) ∈ jW := List.mem_of_getElem? (i := 529) (by decide +kernel)
theorem wl530 : (Cond.code ⟨"HistoryJudgeModel", "isOne", "(I)Z"⟩ prog_7_method_4_code 1 (some FieldType.boolean)) ∈ jW := List.mem_of_getElem? (i := 530) (by decide +kernel)
theorem wl531 : (Cond.methodLink "HistoryJudgeModel" 61 ⟨"HistoryJudgeModel", "isItem", "(I)Z"⟩) ∈ jW := List.mem_of_getElem? (i := 531) (by decide +kernel)
theorem wl532 : (Cond.static ⟨"HistoryJudgeModel", "isItem", "(I)Z"⟩) ∈ jW := List.mem_of_getElem? (i := 532) (by decide +kernel)
theorem wl533 : (Cond.code ⟨"HistoryJudgeModel", "isItem", "(I)Z"⟩ prog_7_method_3_code 1 (some FieldType.boolean)) ∈ jW := List.mem_of_getElem? (i := 533) (by decide +kernel)
theorem wl534 : (Cond.methodLink "HistoryJudgeModel" 67 ⟨"HistoryJudgeModel", "note", "(IIIZ)V"⟩) ∈ jW := List.mem_of_getElem? (i := 534) (by decide +kernel)
theorem wl535 : (Cond.instanceMethod ⟨"HistoryJudgeModel", "note", "(IIIZ)V"⟩) ∈ jW := List.mem_of_getElem? (i := 535) (by decide +kernel)
theorem wl536 : (Cond.code ⟨"HistoryJudgeModel", "note", "(IIIZ)V"⟩ prog_7_method_5_code 5 none) ∈ jW := List.mem_of_getElem? (i := 536) (by decide +kernel)
theorem wl537 : (Cond.methodLink "HistoryJudgeLaw" 46 ⟨"HistoryJudgeModel", "read", "(III)I"⟩) ∈ jW := List.mem_of_getElem? (i := 537) (by decide +kernel)
theorem wl538 : (Cond.instanceMethod ⟨"HistoryJudgeModel", "read", "(III)I"⟩) ∈ jW := List.mem_of_getElem? (i := 538) (by decide +kernel)
theorem wl539 : (Cond.selects "HistoryJudgeModel" ⟨"HistoryJudgeModel", "read", "(III)I"⟩ ⟨"HistoryJudgeModel", "read", "(III)I"⟩) ∈ jW := List.mem_of_getElem? (i := 539) (by decide +kernel)
theorem wl540 : (Cond.code ⟨"HistoryJudgeModel", "read", "(III)I"⟩ prog_7_method_8_code 4 (some FieldType.int)) ∈ jW := List.mem_of_getElem? (i := 540) (by decide +kernel)
theorem wl541 : (Cond.methodLink "HistoryJudgeModel" 71 ⟨"HistoryJudgeModel", "isVersion", "(II)Z"⟩) ∈ jW := List.mem_of_getElem? (i := 541) (by decide +kernel)
theorem wl542 : (Cond.instanceMethod ⟨"HistoryJudgeModel", "isVersion", "(II)Z"⟩) ∈ jW := List.mem_of_getElem? (i := 542) (by decide +kernel)
theorem wl543 : (Cond.code ⟨"HistoryJudgeModel", "isVersion", "(II)Z"⟩ prog_7_method_7_code 3 (some FieldType.boolean)) ∈ jW := List.mem_of_getElem? (i := 543) (by decide +kernel)
theorem wl544 : (Cond.methodLink "HistoryJudgeLaw" 50 ⟨"HistoryJudgeModel", "end", "(IZ)V"⟩) ∈ jW := List.mem_of_getElem? (i := 544) (by decide +kernel)
theorem wl545 : (Cond.instanceMethod ⟨"HistoryJudgeModel", "end", "(IZ)V"⟩) ∈ jW := List.mem_of_getElem? (i := 545) (by decide +kernel)
theorem wl546 : (Cond.selects "HistoryJudgeModel" ⟨"HistoryJudgeModel", "end", "(IZ)V"⟩ ⟨"HistoryJudgeModel", "end", "(IZ)V"⟩) ∈ jW := List.mem_of_getElem? (i := 546) (by decide +kernel)
theorem wl547 : (Cond.code ⟨"HistoryJudgeModel", "end", "(IZ)V"⟩ prog_7_method_10_code 5 none) ∈ jW := List.mem_of_getElem? (i := 547) (by decide +kernel)
theorem wl548 : (Cond.methodLink "HistoryJudgeModel" 78 ⟨"HistoryJudgeModel", "isFinal", "(I)Z"⟩) ∈ jW := List.mem_of_getElem? (i := 548) (by decide +kernel)
theorem wl549 : (Cond.instanceMethod ⟨"HistoryJudgeModel", "isFinal", "(I)Z"⟩) ∈ jW := List.mem_of_getElem? (i := 549) (by decide +kernel)
theorem wl550 : (Cond.code ⟨"HistoryJudgeModel", "isFinal", "(I)Z"⟩ prog_7_method_9_code 4 (some FieldType.boolean)) ∈ jW := List.mem_of_getElem? (i := 550) (by decide +kernel)
theorem wl551 : (Cond.methodLink "HistoryJudgeLaw" 55 ⟨"HistoryJudgeModel", "state", "(I)I"⟩) ∈ jW := List.mem_of_getElem? (i := 551) (by decide +kernel)
theorem wl552 : (Cond.instanceMethod ⟨"HistoryJudgeModel", "state", "(I)I"⟩) ∈ jW := List.mem_of_getElem? (i := 552) (by decide +kernel)
theorem wl553 : (Cond.selects "HistoryJudgeModel" ⟨"HistoryJudgeModel", "state", "(I)I"⟩ ⟨"HistoryJudgeModel", "state", "(I)I"⟩) ∈ jW := List.mem_of_getElem? (i := 553) (by decide +kernel)
theorem wl554 : (Cond.code ⟨"HistoryJudgeModel", "state", "(I)I"⟩ prog_7_method_11_code 2 (some FieldType.int)) ∈ jW := List.mem_of_getElem? (i := 554) (by decide +kernel)
theorem wl555 : (Cond.methodLink "HistoryJudgeLaw" 59 ⟨"HistoryJudgeModel", "version", "(II)I"⟩) ∈ jW := List.mem_of_getElem? (i := 555) (by decide +kernel)
theorem wl556 : (Cond.instanceMethod ⟨"HistoryJudgeModel", "version", "(II)I"⟩) ∈ jW := List.mem_of_getElem? (i := 556) (by decide +kernel)
theorem wl557 : (Cond.selects "HistoryJudgeModel" ⟨"HistoryJudgeModel", "version", "(II)I"⟩ ⟨"HistoryJudgeModel", "version", "(II)I"⟩) ∈ jW := List.mem_of_getElem? (i := 557) (by decide +kernel)
theorem wl558 : (Cond.code ⟨"HistoryJudgeModel", "version", "(II)I"⟩ prog_7_method_12_code 3 (some FieldType.int)) ∈ jW := List.mem_of_getElem? (i := 558) (by decide +kernel)
theorem wl559 : (Cond.methodLink "HistoryJudgeLaw" 64 ⟨"HistoryJudgeModel", "exchange", "(II)Z"⟩) ∈ jW := List.mem_of_getElem? (i := 559) (by decide +kernel)
theorem wl560 : (Cond.instanceMethod ⟨"HistoryJudgeModel", "exchange", "(II)Z"⟩) ∈ jW := List.mem_of_getElem? (i := 560) (by decide +kernel)
theorem wl561 : (Cond.selects "HistoryJudgeModel" ⟨"HistoryJudgeModel", "exchange", "(II)Z"⟩ ⟨"HistoryJudgeModel", "exchange", "(II)Z"⟩) ∈ jW := List.mem_of_getElem? (i := 561) (by decide +kernel)
theorem wl562 : (Cond.code ⟨"HistoryJudgeModel", "exchange", "(II)Z"⟩ prog_7_method_13_code 4 (some FieldType.boolean)) ∈ jW := List.mem_of_getElem? (i := 562) (by decide +kernel)
theorem wl563 : (Cond.methodLink "HistoryJudgeLaw" 101 ⟨"HistoryJudgeModel", "clear", "()I"⟩) ∈ jW := List.mem_of_getElem? (i := 563) (by decide +kernel)
theorem wl564 : (Cond.instanceMethod ⟨"HistoryJudgeModel", "clear", "()I"⟩) ∈ jW := List.mem_of_getElem? (i := 564) (by decide +kernel)
theorem wl565 : (Cond.selects "HistoryJudgeModel" ⟨"HistoryJudgeModel", "clear", "()I"⟩ ⟨"HistoryJudgeModel", "clear", "()I"⟩) ∈ jW := List.mem_of_getElem? (i := 565) (by decide +kernel)
theorem wl566 : (Cond.code ⟨"HistoryJudgeModel", "clear", "()I"⟩ prog_7_method_14_code 3 (some FieldType.int)) ∈ jW := List.mem_of_getElem? (i := 566) (by decide +kernel)
theorem wl567 : (Cond.methodLink "HistoryJudgeLaw" 68 ⟨"HistoryJudgeModel", "edges", "(II)I"⟩) ∈ jW := List.mem_of_getElem? (i := 567) (by decide +kernel)
theorem wl568 : (Cond.instanceMethod ⟨"HistoryJudgeModel", "edges", "(II)I"⟩) ∈ jW := List.mem_of_getElem? (i := 568) (by decide +kernel)
theorem wl569 : (Cond.selects "HistoryJudgeModel" ⟨"HistoryJudgeModel", "edges", "(II)I"⟩ ⟨"HistoryJudgeModel", "edges", "(II)I"⟩) ∈ jW := List.mem_of_getElem? (i := 569) (by decide +kernel)
theorem wl570 : (Cond.code ⟨"HistoryJudgeModel", "edges", "(II)I"⟩ prog_7_method_21_code 3 (some FieldType.int)) ∈ jW := List.mem_of_getElem? (i := 570) (by decide +kernel)
theorem wl571 : (Cond.methodLink "HistoryJudgeModel" 97 ⟨"HistoryJudgeModel", "edge", "(II)I"⟩) ∈ jW := List.mem_of_getElem? (i := 571) (by decide +kernel)
theorem wl572 : (Cond.instanceMethod ⟨"HistoryJudgeModel", "edge", "(II)I"⟩) ∈ jW := List.mem_of_getElem? (i := 572) (by decide +kernel)
theorem wl573 : (Cond.code ⟨"HistoryJudgeModel", "edge", "(II)I"⟩ prog_7_method_20_code 3 (some FieldType.int)) ∈ jW := List.mem_of_getElem? (i := 573) (by decide +kernel)
theorem wl574 : (Cond.methodLink "HistoryJudgeModel" 85 ⟨"HistoryJudgeModel", "isCommitted", "(I)Z"⟩) ∈ jW := List.mem_of_getElem? (i := 574) (by decide +kernel)
theorem wl575 : (Cond.instanceMethod ⟨"HistoryJudgeModel", "isCommitted", "(I)Z"⟩) ∈ jW := List.mem_of_getElem? (i := 575) (by decide +kernel)
theorem wl576 : (Cond.code ⟨"HistoryJudgeModel", "isCommitted", "(I)Z"⟩ prog_7_method_15_code 2 (some FieldType.boolean)) ∈ jW := List.mem_of_getElem? (i := 576) (by decide +kernel)
theorem wl577 : (Cond.methodLink "HistoryJudgeModel" 88 ⟨"HistoryJudgeModel", "follows", "(II)Z"⟩) ∈ jW := List.mem_of_getElem? (i := 577) (by decide +kernel)
theorem wl578 : (Cond.instanceMethod ⟨"HistoryJudgeModel", "follows", "(II)Z"⟩) ∈ jW := List.mem_of_getElem? (i := 578) (by decide +kernel)
theorem wl579 : (Cond.code ⟨"HistoryJudgeModel", "follows", "(II)Z"⟩ prog_7_method_17_code 6 (some FieldType.boolean)) ∈ jW := List.mem_of_getElem? (i := 579) (by decide +kernel)
theorem wl580 : (Cond.methodLink "HistoryJudgeModel" 81 ⟨"HistoryJudgeModel", "nextOf", "(II)I"⟩) ∈ jW := List.mem_of_getElem? (i := 580) (by decide +kernel)
theorem wl581 : (Cond.instanceMethod ⟨"HistoryJudgeModel", "nextOf", "(II)I"⟩) ∈ jW := List.mem_of_getElem? (i := 581) (by decide +kernel)
theorem wl582 : (Cond.code ⟨"HistoryJudgeModel", "nextOf", "(II)I"⟩ prog_7_method_16_code 5 (some FieldType.int)) ∈ jW := List.mem_of_getElem? (i := 582) (by decide +kernel)
theorem wl583 : (Cond.methodLink "HistoryJudgeModel" 91 ⟨"HistoryJudgeModel", "hasRead", "(II)Z"⟩) ∈ jW := List.mem_of_getElem? (i := 583) (by decide +kernel)
theorem wl584 : (Cond.instanceMethod ⟨"HistoryJudgeModel", "hasRead", "(II)Z"⟩) ∈ jW := List.mem_of_getElem? (i := 584) (by decide +kernel)
theorem wl585 : (Cond.code ⟨"HistoryJudgeModel", "hasRead", "(II)Z"⟩ prog_7_method_18_code 5 (some FieldType.boolean)) ∈ jW := List.mem_of_getElem? (i := 585) (by decide +kernel)
theorem wl586 : (Cond.methodLink "HistoryJudgeModel" 94 ⟨"HistoryJudgeModel", "overtaken", "(II)Z"⟩) ∈ jW := List.mem_of_getElem? (i := 586) (by decide +kernel)
theorem wl587 : (Cond.instanceMethod ⟨"HistoryJudgeModel", "overtaken", "(II)Z"⟩) ∈ jW := List.mem_of_getElem? (i := 587) (by decide +kernel)
theorem wl588 : (Cond.code ⟨"HistoryJudgeModel", "overtaken", "(II)Z"⟩ prog_7_method_19_code 6 (some FieldType.boolean)) ∈ jW := List.mem_of_getElem? (i := 588) (by decide +kernel)
theorem wl589 : (Cond.methodLink "HistoryJudgeLaw" 80 ⟨"HistoryJudgeModel", "cycle", "(I)I"⟩) ∈ jW := List.mem_of_getElem? (i := 589) (by decide +kernel)
theorem wl590 : (Cond.instanceMethod ⟨"HistoryJudgeModel", "cycle", "(I)I"⟩) ∈ jW := List.mem_of_getElem? (i := 590) (by decide +kernel)
theorem wl591 : (Cond.selects "HistoryJudgeModel" ⟨"HistoryJudgeModel", "cycle", "(I)I"⟩ ⟨"HistoryJudgeModel", "cycle", "(I)I"⟩) ∈ jW := List.mem_of_getElem? (i := 591) (by decide +kernel)
theorem wl592 : (Cond.code ⟨"HistoryJudgeModel", "cycle", "(I)I"⟩ prog_7_method_29_code 2 (some FieldType.int)) ∈ jW := List.mem_of_getElem? (i := 592) (by decide +kernel)
theorem wl593 : (Cond.methodLink "HistoryJudgeModel" 120 ⟨"HistoryJudgeModel", "findCycle", "(I)I"⟩) ∈ jW := List.mem_of_getElem? (i := 593) (by decide +kernel)
theorem wl594 : (Cond.instanceMethod ⟨"HistoryJudgeModel", "findCycle", "(I)I"⟩) ∈ jW := List.mem_of_getElem? (i := 594) (by decide +kernel)
theorem wl595 : (Cond.code ⟨"HistoryJudgeModel", "findCycle", "(I)I"⟩ prog_7_method_28_code 3 (some FieldType.int)) ∈ jW := List.mem_of_getElem? (i := 595) (by decide +kernel)
theorem wl596 : (Cond.methodLink "HistoryJudgeModel" 114 ⟨"HistoryJudgeModel", "draw", "()V"⟩) ∈ jW := List.mem_of_getElem? (i := 596) (by decide +kernel)
theorem wl597 : (Cond.instanceMethod ⟨"HistoryJudgeModel", "draw", "()V"⟩) ∈ jW := List.mem_of_getElem? (i := 597) (by decide +kernel)
theorem wl598 : (Cond.code ⟨"HistoryJudgeModel", "draw", "()V"⟩ prog_7_method_22_code 3 none) ∈ jW := List.mem_of_getElem? (i := 598) (by decide +kernel)
theorem wl599 : (Cond.methodLink "HistoryJudgeModel" 117 ⟨"HistoryJudgeModel", "tryRows", "(II)Z"⟩) ∈ jW := List.mem_of_getElem? (i := 599) (by decide +kernel)
theorem wl600 : (Cond.instanceMethod ⟨"HistoryJudgeModel", "tryRows", "(II)Z"⟩) ∈ jW := List.mem_of_getElem? (i := 600) (by decide +kernel)
theorem wl601 : (Cond.code ⟨"HistoryJudgeModel", "tryRows", "(II)Z"⟩ prog_7_method_27_code 5 (some FieldType.boolean)) ∈ jW := List.mem_of_getElem? (i := 601) (by decide +kernel)
theorem wl602 : (Cond.methodLink "HistoryJudgeModel" 107 ⟨"HistoryJudgeModel", "fits", "(III)Z"⟩) ∈ jW := List.mem_of_getElem? (i := 602) (by decide +kernel)
theorem wl603 : (Cond.instanceMethod ⟨"HistoryJudgeModel", "fits", "(III)Z"⟩) ∈ jW := List.mem_of_getElem? (i := 603) (by decide +kernel)
theorem wl604 : (Cond.code ⟨"HistoryJudgeModel", "fits", "(III)Z"⟩ prog_7_method_26_code 4 (some FieldType.boolean)) ∈ jW := List.mem_of_getElem? (i := 604) (by decide +kernel)
theorem wl605 : (Cond.methodLink "HistoryJudgeModel" 104 ⟨"HistoryJudgeModel", "inRow", "(II)Z"⟩) ∈ jW := List.mem_of_getElem? (i := 605) (by decide +kernel)
theorem wl606 : (Cond.instanceMethod ⟨"HistoryJudgeModel", "inRow", "(II)Z"⟩) ∈ jW := List.mem_of_getElem? (i := 606) (by decide +kernel)
theorem wl607 : (Cond.code ⟨"HistoryJudgeModel", "inRow", "(II)Z"⟩ prog_7_method_24_code 5 (some FieldType.boolean)) ∈ jW := List.mem_of_getElem? (i := 607) (by decide +kernel)
theorem wl608 : (Cond.methodLink "HistoryJudgeModel" 100 ⟨"HistoryJudgeModel", "mask", "(I)I"⟩) ∈ jW := List.mem_of_getElem? (i := 608) (by decide +kernel)
theorem wl609 : (Cond.static ⟨"HistoryJudgeModel", "mask", "(I)I"⟩) ∈ jW := List.mem_of_getElem? (i := 609) (by decide +kernel)
theorem wl610 : (Cond.code ⟨"HistoryJudgeModel", "mask", "(I)I"⟩ prog_7_method_23_code 1 (some FieldType.int)) ∈ jW := List.mem_of_getElem? (i := 610) (by decide +kernel)
theorem wl611 : (Cond.methodLink "HistoryJudgeModel" 111 ⟨"HistoryJudgeModel", "closes", "(II)Z"⟩) ∈ jW := List.mem_of_getElem? (i := 611) (by decide +kernel)
theorem wl612 : (Cond.instanceMethod ⟨"HistoryJudgeModel", "closes", "(II)Z"⟩) ∈ jW := List.mem_of_getElem? (i := 612) (by decide +kernel)
theorem wl613 : (Cond.code ⟨"HistoryJudgeModel", "closes", "(II)Z"⟩ prog_7_method_25_code 7 (some FieldType.boolean)) ∈ jW := List.mem_of_getElem? (i := 613) (by decide +kernel)
theorem wl614 : (Cond.methodLink "HistoryJudgeLaw" 84 ⟨"HistoryJudgeModel", "step", "(II)I"⟩) ∈ jW := List.mem_of_getElem? (i := 614) (by decide +kernel)
theorem wl615 : (Cond.instanceMethod ⟨"HistoryJudgeModel", "step", "(II)I"⟩) ∈ jW := List.mem_of_getElem? (i := 615) (by decide +kernel)
theorem wl616 : (Cond.selects "HistoryJudgeModel" ⟨"HistoryJudgeModel", "step", "(II)I"⟩ ⟨"HistoryJudgeModel", "step", "(II)I"⟩) ∈ jW := List.mem_of_getElem? (i := 616) (by decide +kernel)
theorem wl617 : (Cond.code ⟨"HistoryJudgeModel", "step", "(II)I"⟩ prog_7_method_30_code 4 (some FieldType.int)) ∈ jW := List.mem_of_getElem? (i := 617) (by decide +kernel)
theorem wl618 : (Cond.methodLink "HistoryJudgeLaw" 72 ⟨"HistoryJudgeModel", "flaws", "()I"⟩) ∈ jW := List.mem_of_getElem? (i := 618) (by decide +kernel)
theorem wl619 : (Cond.instanceMethod ⟨"HistoryJudgeModel", "flaws", "()I"⟩) ∈ jW := List.mem_of_getElem? (i := 619) (by decide +kernel)
theorem wl620 : (Cond.selects "HistoryJudgeModel" ⟨"HistoryJudgeModel", "flaws", "()I"⟩ ⟨"HistoryJudgeModel", "flaws", "()I"⟩) ∈ jW := List.mem_of_getElem? (i := 620) (by decide +kernel)
theorem wl621 : (Cond.code ⟨"HistoryJudgeModel", "flaws", "()I"⟩ prog_7_method_33_code 1 (some FieldType.int)) ∈ jW := List.mem_of_getElem? (i := 621) (by decide +kernel)
theorem wl622 : (Cond.methodLink "HistoryJudgeModel" 127 ⟨"HistoryJudgeModel", "allFlaws", "()I"⟩) ∈ jW := List.mem_of_getElem? (i := 622) (by decide +kernel)
theorem wl623 : (Cond.instanceMethod ⟨"HistoryJudgeModel", "allFlaws", "()I"⟩) ∈ jW := List.mem_of_getElem? (i := 623) (by decide +kernel)
theorem wl624 : (Cond.code ⟨"HistoryJudgeModel", "allFlaws", "()I"⟩ prog_7_method_32_code 5 (some FieldType.int)) ∈ jW := List.mem_of_getElem? (i := 624) (by decide +kernel)
theorem wl625 : (Cond.methodLink "HistoryJudgeModel" 123 ⟨"HistoryJudgeModel", "readFlaws", "()I"⟩) ∈ jW := List.mem_of_getElem? (i := 625) (by decide +kernel)
theorem wl626 : (Cond.instanceMethod ⟨"HistoryJudgeModel", "readFlaws", "()I"⟩) ∈ jW := List.mem_of_getElem? (i := 626) (by decide +kernel)
theorem wl627 : (Cond.code ⟨"HistoryJudgeModel", "readFlaws", "()I"⟩ prog_7_method_31_code 7 (some FieldType.int)) ∈ jW := List.mem_of_getElem? (i := 627) (by decide +kernel)
theorem wl628 : (Cond.methodLink "HistoryJudgeLaw" 76 ⟨"HistoryJudgeModel", "level", "()I"⟩) ∈ jW := List.mem_of_getElem? (i := 628) (by decide +kernel)
theorem wl629 : (Cond.instanceMethod ⟨"HistoryJudgeModel", "level", "()I"⟩) ∈ jW := List.mem_of_getElem? (i := 629) (by decide +kernel)
theorem wl630 : (Cond.selects "HistoryJudgeModel" ⟨"HistoryJudgeModel", "level", "()I"⟩ ⟨"HistoryJudgeModel", "level", "()I"⟩) ∈ jW := List.mem_of_getElem? (i := 630) (by decide +kernel)
theorem wl631 : (Cond.code ⟨"HistoryJudgeModel", "level", "()I"⟩ prog_7_method_34_code 2 (some FieldType.int)) ∈ jW := List.mem_of_getElem? (i := 631) (by decide +kernel)
theorem wl632 : (Cond.methodLink "HistoryJudgeLaw" 89 ⟨"HistoryJudgeModel", "serial", "()Z"⟩) ∈ jW := List.mem_of_getElem? (i := 632) (by decide +kernel)
theorem wl633 : (Cond.instanceMethod ⟨"HistoryJudgeModel", "serial", "()Z"⟩) ∈ jW := List.mem_of_getElem? (i := 633) (by decide +kernel)
theorem wl634 : (Cond.selects "HistoryJudgeModel" ⟨"HistoryJudgeModel", "serial", "()Z"⟩ ⟨"HistoryJudgeModel", "serial", "()Z"⟩) ∈ jW := List.mem_of_getElem? (i := 634) (by decide +kernel)
theorem wl635 : (Cond.code ⟨"HistoryJudgeModel", "serial", "()Z"⟩ prog_7_method_38_code 1 (some FieldType.boolean)) ∈ jW := List.mem_of_getElem? (i := 635) (by decide +kernel)
theorem wl636 : (Cond.methodLink "HistoryJudgeModel" 139 ⟨"HistoryJudgeModel", "tryOrders", "(II)Z"⟩) ∈ jW := List.mem_of_getElem? (i := 636) (by decide +kernel)
theorem wl637 : (Cond.instanceMethod ⟨"HistoryJudgeModel", "tryOrders", "(II)Z"⟩) ∈ jW := List.mem_of_getElem? (i := 637) (by decide +kernel)
theorem wl638 : (Cond.code ⟨"HistoryJudgeModel", "tryOrders", "(II)Z"⟩ prog_7_method_37_code 5 (some FieldType.boolean)) ∈ jW := List.mem_of_getElem? (i := 638) (by decide +kernel)
theorem wl639 : (Cond.methodLink "HistoryJudgeModel" 130 ⟨"HistoryJudgeModel", "committed", "()I"⟩) ∈ jW := List.mem_of_getElem? (i := 639) (by decide +kernel)
theorem wl640 : (Cond.instanceMethod ⟨"HistoryJudgeModel", "committed", "()I"⟩) ∈ jW := List.mem_of_getElem? (i := 640) (by decide +kernel)
theorem wl641 : (Cond.code ⟨"HistoryJudgeModel", "committed", "()I"⟩ prog_7_method_35_code 3 (some FieldType.int)) ∈ jW := List.mem_of_getElem? (i := 641) (by decide +kernel)
theorem wl642 : (Cond.methodLink "HistoryJudgeModel" 136 ⟨"HistoryJudgeModel", "runs", "(II)Z"⟩) ∈ jW := List.mem_of_getElem? (i := 642) (by decide +kernel)
theorem wl643 : (Cond.instanceMethod ⟨"HistoryJudgeModel", "runs", "(II)Z"⟩) ∈ jW := List.mem_of_getElem? (i := 643) (by decide +kernel)
theorem wl644 : (Cond.code ⟨"HistoryJudgeModel", "runs", "(II)Z"⟩ prog_7_method_36_code 5 (some FieldType.boolean)) ∈ jW := List.mem_of_getElem? (i := 644) (by decide +kernel)
theorem wl645 : (Cond.methodLink "HistoryJudgeLaw" 93 ⟨"HistoryJudgeModel", "place", "(I)I"⟩) ∈ jW := List.mem_of_getElem? (i := 645) (by decide +kernel)
theorem wl646 : (Cond.instanceMethod ⟨"HistoryJudgeModel", "place", "(I)I"⟩) ∈ jW := List.mem_of_getElem? (i := 646) (by decide +kernel)
theorem wl647 : (Cond.selects "HistoryJudgeModel" ⟨"HistoryJudgeModel", "place", "(I)I"⟩ ⟨"HistoryJudgeModel", "place", "(I)I"⟩) ∈ jW := List.mem_of_getElem? (i := 647) (by decide +kernel)
theorem wl648 : (Cond.code ⟨"HistoryJudgeModel", "place", "(I)I"⟩ prog_7_method_39_code 3 (some FieldType.int)) ∈ jW := List.mem_of_getElem? (i := 648) (by decide +kernel)
theorem wl649 : (Cond.methodLink "HistoryJudgeLaw" 97 ⟨"HistoryJudgeModel", "beginnings", "()I"⟩) ∈ jW := List.mem_of_getElem? (i := 649) (by decide +kernel)
theorem wl650 : (Cond.instanceMethod ⟨"HistoryJudgeModel", "beginnings", "()I"⟩) ∈ jW := List.mem_of_getElem? (i := 650) (by decide +kernel)
theorem wl651 : (Cond.selects "HistoryJudgeModel" ⟨"HistoryJudgeModel", "beginnings", "()I"⟩ ⟨"HistoryJudgeModel", "beginnings", "()I"⟩) ∈ jW := List.mem_of_getElem? (i := 651) (by decide +kernel)
theorem wl652 : (Cond.code ⟨"HistoryJudgeModel", "beginnings", "()I"⟩ prog_7_method_40_code 3 (some FieldType.int)) ∈ jW := List.mem_of_getElem? (i := 652) (by decide +kernel)
theorem wl653 : (Cond.arrayClass FieldType.long) ∈ jW := List.mem_of_getElem? (i := 653) (by decide +kernel)
theorem wl654 : (Cond.codeWith ⟨"HistoryJudgeLaw", "write", "(LHistoryJudge;II[J)I"⟩ method_3_code 5 (some FieldType.int) [(0, 10, 13, 13), (0, 10, 17, 15), (0, 10, 21, 17)]) ∈ jW := List.mem_of_getElem? (i := 654) (by decide +kernel)
theorem wl655 : (Cond.codeWith ⟨"HistoryJudgeLaw", "read", "(LHistoryJudge;III[J)I"⟩ method_4_code 6 (some FieldType.int) [(0, 12, 15, 13), (0, 12, 19, 23), (0, 12, 23, 15), (0, 12, 27, 17)]) ∈ jW := List.mem_of_getElem? (i := 655) (by decide +kernel)
theorem wl656 : (Cond.codeWith ⟨"HistoryJudgeLaw", "end", "(LHistoryJudge;IZ)I"⟩ method_5_code 4 (some FieldType.int) [(0, 6, 9, 13), (0, 6, 12, 15)]) ∈ jW := List.mem_of_getElem? (i := 656) (by decide +kernel)
def jxnst : List Cond := [
  .methodLinkNest "HistoryJudge" 18 ⟨"HistoryJudge$Graph", "<init>", "()V"⟩ "HistoryJudge",
  .methodLinkNest "HistoryJudge" 25 ⟨"HistoryJudge$CycleSearch", "<init>", "()V"⟩ "HistoryJudge",
  .methodLinkNest "HistoryJudge" 32 ⟨"HistoryJudge$SerialSearch", "<init>", "()V"⟩ "HistoryJudge",
  .methodLinkNest "HistoryJudge$Graph" 71 ⟨"HistoryJudge", "only", "(I)I"⟩ "HistoryJudge",
  .methodLinkNest "HistoryJudge$CycleSearch" 54 ⟨"HistoryJudge", "only", "(I)I"⟩ "HistoryJudge",
  .methodLinkNest "HistoryJudge$CycleSearch" 61 ⟨"HistoryJudge", "has", "(II)Z"⟩ "HistoryJudge",
  .methodLinkNest "HistoryJudge$CycleSearch" 65 ⟨"HistoryJudge", "least", "(I)I"⟩ "HistoryJudge",
  .methodLinkNest "HistoryJudge$History" 64 ⟨"HistoryJudge", "only", "(I)I"⟩ "HistoryJudge",
  .methodLinkNest "HistoryJudge$SerialSearch" 105 ⟨"HistoryJudge", "has", "(II)Z"⟩ "HistoryJudge",
  .methodLinkNest "HistoryJudge$SerialSearch" 55 ⟨"HistoryJudge", "only", "(I)I"⟩ "HistoryJudge",
  .methodLinkNest "HistoryJudge$SerialSearch" 52 ⟨"HistoryJudge", "least", "(I)I"⟩ "HistoryJudge"]
theorem nl0 : (Cond.methodLinkNest "HistoryJudge" 18 ⟨"HistoryJudge$Graph", "<init>", "()V"⟩ "HistoryJudge") ∈ jxnst := List.mem_of_getElem? (i := 0) (by decide +kernel)
theorem nl1 : (Cond.methodLinkNest "HistoryJudge" 25 ⟨"HistoryJudge$CycleSearch", "<init>", "()V"⟩ "HistoryJudge") ∈ jxnst := List.mem_of_getElem? (i := 1) (by decide +kernel)
theorem nl2 : (Cond.methodLinkNest "HistoryJudge" 32 ⟨"HistoryJudge$SerialSearch", "<init>", "()V"⟩ "HistoryJudge") ∈ jxnst := List.mem_of_getElem? (i := 2) (by decide +kernel)
theorem nl3 : (Cond.methodLinkNest "HistoryJudge$Graph" 71 ⟨"HistoryJudge", "only", "(I)I"⟩ "HistoryJudge") ∈ jxnst := List.mem_of_getElem? (i := 3) (by decide +kernel)
theorem nl4 : (Cond.methodLinkNest "HistoryJudge$CycleSearch" 54 ⟨"HistoryJudge", "only", "(I)I"⟩ "HistoryJudge") ∈ jxnst := List.mem_of_getElem? (i := 4) (by decide +kernel)
theorem nl5 : (Cond.methodLinkNest "HistoryJudge$CycleSearch" 61 ⟨"HistoryJudge", "has", "(II)Z"⟩ "HistoryJudge") ∈ jxnst := List.mem_of_getElem? (i := 5) (by decide +kernel)
theorem nl6 : (Cond.methodLinkNest "HistoryJudge$CycleSearch" 65 ⟨"HistoryJudge", "least", "(I)I"⟩ "HistoryJudge") ∈ jxnst := List.mem_of_getElem? (i := 6) (by decide +kernel)
theorem nl7 : (Cond.methodLinkNest "HistoryJudge$History" 64 ⟨"HistoryJudge", "only", "(I)I"⟩ "HistoryJudge") ∈ jxnst := List.mem_of_getElem? (i := 7) (by decide +kernel)
theorem nl8 : (Cond.methodLinkNest "HistoryJudge$SerialSearch" 105 ⟨"HistoryJudge", "has", "(II)Z"⟩ "HistoryJudge") ∈ jxnst := List.mem_of_getElem? (i := 8) (by decide +kernel)
theorem nl9 : (Cond.methodLinkNest "HistoryJudge$SerialSearch" 55 ⟨"HistoryJudge", "only", "(I)I"⟩ "HistoryJudge") ∈ jxnst := List.mem_of_getElem? (i := 9) (by decide +kernel)
theorem nl10 : (Cond.methodLinkNest "HistoryJudge$SerialSearch" 52 ⟨"HistoryJudge", "least", "(I)I"⟩ "HistoryJudge") ∈ jxnst := List.mem_of_getElem? (i := 10) (by decide +kernel)
theorem jxnst_kind : ∀ w ∈ jxnst, (∃ (a : String) (i : Nat) (x : MethodName) (k : String), w = .methodLinkNest a i x k) ∨ ∃ (a : String) (i : Nat) (b n d k : String), w = .fieldLinkNest a i b n d k := by
  intro w hw
  simp only [jxnst, List.mem_cons, List.not_mem_nil, or_false] at hw
  rcases hw with rfl | rfl | rfl | rfl | rfl | rfl | rfl | rfl | rfl | rfl | rfl <;> exact Or.inl ⟨_, _, _, _, rfl⟩
