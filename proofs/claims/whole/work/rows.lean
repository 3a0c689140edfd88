section
-- ===== PART A: goes FIRST, ahead of the names: the tables' words, and 'selects' of the private methods out of them =====
/-- a private method of a class that the tables say can be made, by its rows of tables_1 -/
def lw_okq (q : MethodName × Nat) : Prop := (q.1.cls ≠ "java/lang/invoke/MethodHandle" ∧ q.1.cls ≠ "java/lang/invoke/VarHandle") ∧ Cond.instantiable q.1.cls q.2 ∈ tables_1 ∧ Cond.privateMethod q.1 ∈ tables_1 ∧ Cond.instanceMethod q.1 ∈ tables_1
theorem lw_p0 : lw_okq (⟨"HistoryJudge$Graph", "drawOrder", "(LHistoryJudge$History;I)V"⟩, 3) := ⟨⟨by decide +kernel, by decide +kernel⟩, List.mem_of_getElem? (i := 96) (by decide +kernel), List.mem_of_getElem? (i := 205) (by decide +kernel), List.mem_of_getElem? (i := 206) (by decide +kernel)⟩
theorem lw_p1 : lw_okq (⟨"HistoryJudge$Graph", "drawRead", "(LHistoryJudge$History;I)V"⟩, 3) := ⟨⟨by decide +kernel, by decide +kernel⟩, List.mem_of_getElem? (i := 96) (by decide +kernel), List.mem_of_getElem? (i := 219) (by decide +kernel), List.mem_of_getElem? (i := 220) (by decide +kernel)⟩
theorem lw_p2 : lw_okq (⟨"HistoryJudge$History", "placeBehind", "(II)I"⟩, 12) := ⟨⟨by decide +kernel, by decide +kernel⟩, List.mem_of_getElem? (i := 25) (by decide +kernel), List.mem_of_getElem? (i := 227) (by decide +kernel), List.mem_of_getElem? (i := 228) (by decide +kernel)⟩
theorem lw_p3 : lw_okq (⟨"HistoryJudge$CycleSearch", "sortEdges", "(LHistoryJudge$Graph;I)V"⟩, 5) := ⟨⟨by decide +kernel, by decide +kernel⟩, List.mem_of_getElem? (i := 118) (by decide +kernel), List.mem_of_getElem? (i := 243) (by decide +kernel), List.mem_of_getElem? (i := 244) (by decide +kernel)⟩
theorem lw_p4 : lw_okq (⟨"HistoryJudge$CycleSearch", "measure", "(I)V"⟩, 5) := ⟨⟨by decide +kernel, by decide +kernel⟩, List.mem_of_getElem? (i := 118) (by decide +kernel), List.mem_of_getElem? (i := 247) (by decide +kernel), List.mem_of_getElem? (i := 248) (by decide +kernel)⟩
theorem lw_p5 : lw_okq (⟨"HistoryJudge$CycleSearch", "trace", "(IIZ)V"⟩, 5) := ⟨⟨by decide +kernel, by decide +kernel⟩, List.mem_of_getElem? (i := 118) (by decide +kernel), List.mem_of_getElem? (i := 259) (by decide +kernel), List.mem_of_getElem? (i := 260) (by decide +kernel)⟩
theorem lw_p6 : lw_okq (⟨"HistoryJudge$History", "isJudgedRead", "(I)Z"⟩, 12) := ⟨⟨by decide +kernel, by decide +kernel⟩, List.mem_of_getElem? (i := 25) (by decide +kernel), List.mem_of_getElem? (i := 270) (by decide +kernel), List.mem_of_getElem? (i := 271) (by decide +kernel)⟩
theorem lw_p7 : lw_okq (⟨"HistoryJudge$History", "isOfAnotherCommitted", "(I)Z"⟩, 12) := ⟨⟨by decide +kernel, by decide +kernel⟩, List.mem_of_getElem? (i := 25) (by decide +kernel), List.mem_of_getElem? (i := 279) (by decide +kernel), List.mem_of_getElem? (i := 280) (by decide +kernel)⟩
theorem lw_p8 : lw_okq (⟨"HistoryJudge$SerialSearch", "takeReads", "(LHistoryJudge$History;)V"⟩, 5) := ⟨⟨by decide +kernel, by decide +kernel⟩, List.mem_of_getElem? (i := 141) (by decide +kernel), List.mem_of_getElem? (i := 309) (by decide +kernel), List.mem_of_getElem? (i := 310) (by decide +kernel)⟩
theorem lw_p9 : lw_okq (⟨"HistoryJudge$SerialSearch", "takeRead", "(LHistoryJudge$History;I)V"⟩, 5) := ⟨⟨by decide +kernel, by decide +kernel⟩, List.mem_of_getElem? (i := 141) (by decide +kernel), List.mem_of_getElem? (i := 320) (by decide +kernel), List.mem_of_getElem? (i := 321) (by decide +kernel)⟩
theorem lw_p10 : lw_okq (⟨"HistoryJudge$SerialSearch", "takeFirstRead", "(LHistoryJudge$History;II)V"⟩, 5) := ⟨⟨by decide +kernel, by decide +kernel⟩, List.mem_of_getElem? (i := 141) (by decide +kernel), List.mem_of_getElem? (i := 324) (by decide +kernel), List.mem_of_getElem? (i := 325) (by decide +kernel)⟩
theorem lw_p11 : lw_okq (⟨"HistoryJudge$SerialSearch", "takeForeignRead", "(LHistoryJudge$History;II)V"⟩, 5) := ⟨⟨by decide +kernel, by decide +kernel⟩, List.mem_of_getElem? (i := 141) (by decide +kernel), List.mem_of_getElem? (i := 335) (by decide +kernel), List.mem_of_getElem? (i := 336) (by decide +kernel)⟩
theorem lw_p12 : lw_okq (⟨"HistoryJudge$SerialSearch", "followers", "(I)I"⟩, 5) := ⟨⟨by decide +kernel, by decide +kernel⟩, List.mem_of_getElem? (i := 141) (by decide +kernel), List.mem_of_getElem? (i := 339) (by decide +kernel), List.mem_of_getElem? (i := 340) (by decide +kernel)⟩
theorem lw_p13 : lw_okq (⟨"HistoryJudge$SerialSearch", "mayFollow", "(II)Z"⟩, 5) := ⟨⟨by decide +kernel, by decide +kernel⟩, List.mem_of_getElem? (i := 141) (by decide +kernel), List.mem_of_getElem? (i := 343) (by decide +kernel), List.mem_of_getElem? (i := 344) (by decide +kernel)⟩
theorem lw_p14 : lw_okq (⟨"HistoryJudge$SerialSearch", "canBeEnded", "(I)Z"⟩, 5) := ⟨⟨by decide +kernel, by decide +kernel⟩, List.mem_of_getElem? (i := 141) (by decide +kernel), List.mem_of_getElem? (i := 347) (by decide +kernel), List.mem_of_getElem? (i := 348) (by decide +kernel)⟩
theorem lw_p15 : lw_okq (⟨"java/lang/Throwable", "fillInStackTrace", "(I)Ljava/lang/Throwable;"⟩, 6) := ⟨⟨by decide +kernel, by decide +kernel⟩, List.mem_of_getElem? (i := 430) (by decide +kernel), List.mem_of_getElem? (i := 428) (by decide +kernel), List.mem_of_getElem? (i := 429) (by decide +kernel)⟩
def lw_privs_1 : List (MethodName × Nat) := [(⟨"HistoryJudge$Graph", "drawOrder", "(LHistoryJudge$History;I)V"⟩, 3), (⟨"HistoryJudge$Graph", "drawRead", "(LHistoryJudge$History;I)V"⟩, 3), (⟨"HistoryJudge$History", "placeBehind", "(II)I"⟩, 12), (⟨"HistoryJudge$CycleSearch", "sortEdges", "(LHistoryJudge$Graph;I)V"⟩, 5), (⟨"HistoryJudge$CycleSearch", "measure", "(I)V"⟩, 5), (⟨"HistoryJudge$CycleSearch", "trace", "(IIZ)V"⟩, 5), (⟨"HistoryJudge$History", "isJudgedRead", "(I)Z"⟩, 12), (⟨"HistoryJudge$History", "isOfAnotherCommitted", "(I)Z"⟩, 12), (⟨"HistoryJudge$SerialSearch", "takeReads", "(LHistoryJudge$History;)V"⟩, 5), (⟨"HistoryJudge$SerialSearch", "takeRead", "(LHistoryJudge$History;I)V"⟩, 5), (⟨"HistoryJudge$SerialSearch", "takeFirstRead", "(LHistoryJudge$History;II)V"⟩, 5), (⟨"HistoryJudge$SerialSearch", "takeForeignRead", "(LHistoryJudge$History;II)V"⟩, 5), (⟨"HistoryJudge$SerialSearch", "followers", "(I)I"⟩, 5), (⟨"HistoryJudge$SerialSearch", "mayFollow", "(II)Z"⟩, 5), (⟨"HistoryJudge$SerialSearch", "canBeEnded", "(I)Z"⟩, 5), (⟨"java/lang/Throwable", "fillInStackTrace", "(I)Ljava/lang/Throwable;"⟩, 6)]
theorem lw_r1 : ∀ q ∈ lw_privs_1, lw_okq q := List.forall_mem_cons.mpr ⟨lw_p0, List.forall_mem_cons.mpr ⟨lw_p1, List.forall_mem_cons.mpr ⟨lw_p2, List.forall_mem_cons.mpr ⟨lw_p3, List.forall_mem_cons.mpr ⟨lw_p4, List.forall_mem_cons.mpr ⟨lw_p5, List.forall_mem_cons.mpr ⟨lw_p6, List.forall_mem_cons.mpr ⟨lw_p7, List.forall_mem_cons.mpr ⟨lw_p8, List.forall_mem_cons.mpr ⟨lw_p9, List.forall_mem_cons.mpr ⟨lw_p10, List.forall_mem_cons.mpr ⟨lw_p11, List.forall_mem_cons.mpr ⟨lw_p12, List.forall_mem_cons.mpr ⟨lw_p13, List.forall_mem_cons.mpr ⟨lw_p14, List.forall_mem_cons.mpr ⟨lw_p15, fun _ h => absurd h List.not_mem_nil⟩⟩⟩⟩⟩⟩⟩⟩⟩⟩⟩⟩⟩⟩⟩⟩
theorem lw_p16 : lw_okq (⟨"HistoryJudgeModel", "note", "(IIIZ)V"⟩, 18) := ⟨⟨by decide +kernel, by decide +kernel⟩, List.mem_of_getElem? (i := 535) (by decide +kernel), List.mem_of_getElem? (i := 611) (by decide +kernel), List.mem_of_getElem? (i := 612) (by decide +kernel)⟩
theorem lw_p17 : lw_okq (⟨"HistoryJudgeModel", "isVersion", "(II)Z"⟩, 18) := ⟨⟨by decide +kernel, by decide +kernel⟩, List.mem_of_getElem? (i := 535) (by decide +kernel), List.mem_of_getElem? (i := 619) (by decide +kernel), List.mem_of_getElem? (i := 620) (by decide +kernel)⟩
theorem lw_p18 : lw_okq (⟨"HistoryJudgeModel", "isFinal", "(I)Z"⟩, 18) := ⟨⟨by decide +kernel, by decide +kernel⟩, List.mem_of_getElem? (i := 535) (by decide +kernel), List.mem_of_getElem? (i := 627) (by decide +kernel), List.mem_of_getElem? (i := 628) (by decide +kernel)⟩
theorem lw_p19 : lw_okq (⟨"HistoryJudgeModel", "edge", "(II)I"⟩, 18) := ⟨⟨by decide +kernel, by decide +kernel⟩, List.mem_of_getElem? (i := 535) (by decide +kernel), List.mem_of_getElem? (i := 651) (by decide +kernel), List.mem_of_getElem? (i := 652) (by decide +kernel)⟩
theorem lw_p20 : lw_okq (⟨"HistoryJudgeModel", "isCommitted", "(I)Z"⟩, 18) := ⟨⟨by decide +kernel, by decide +kernel⟩, List.mem_of_getElem? (i := 535) (by decide +kernel), List.mem_of_getElem? (i := 655) (by decide +kernel), List.mem_of_getElem? (i := 656) (by decide +kernel)⟩
theorem lw_p21 : lw_okq (⟨"HistoryJudgeModel", "follows", "(II)Z"⟩, 18) := ⟨⟨by decide +kernel, by decide +kernel⟩, List.mem_of_getElem? (i := 535) (by decide +kernel), List.mem_of_getElem? (i := 659) (by decide +kernel), List.mem_of_getElem? (i := 660) (by decide +kernel)⟩
theorem lw_p22 : lw_okq (⟨"HistoryJudgeModel", "nextOf", "(II)I"⟩, 18) := ⟨⟨by decide +kernel, by decide +kernel⟩, List.mem_of_getElem? (i := 535) (by decide +kernel), List.mem_of_getElem? (i := 663) (by decide +kernel), List.mem_of_getElem? (i := 664) (by decide +kernel)⟩
theorem lw_p23 : lw_okq (⟨"HistoryJudgeModel", "hasRead", "(II)Z"⟩, 18) := ⟨⟨by decide +kernel, by decide +kernel⟩, List.mem_of_getElem? (i := 535) (by decide +kernel), List.mem_of_getElem? (i := 667) (by decide +kernel), List.mem_of_getElem? (i := 668) (by decide +kernel)⟩
theorem lw_p24 : lw_okq (⟨"HistoryJudgeModel", "overtaken", "(II)Z"⟩, 18) := ⟨⟨by decide +kernel, by decide +kernel⟩, List.mem_of_getElem? (i := 535) (by decide +kernel), List.mem_of_getElem? (i := 671) (by decide +kernel), List.mem_of_getElem? (i := 672) (by decide +kernel)⟩
theorem lw_p25 : lw_okq (⟨"HistoryJudgeModel", "findCycle", "(I)I"⟩, 18) := ⟨⟨by decide +kernel, by decide +kernel⟩, List.mem_of_getElem? (i := 535) (by decide +kernel), List.mem_of_getElem? (i := 679) (by decide +kernel), List.mem_of_getElem? (i := 680) (by decide +kernel)⟩
theorem lw_p26 : lw_okq (⟨"HistoryJudgeModel", "draw", "()V"⟩, 18) := ⟨⟨by decide +kernel, by decide +kernel⟩, List.mem_of_getElem? (i := 535) (by decide +kernel), List.mem_of_getElem? (i := 683) (by decide +kernel), List.mem_of_getElem? (i := 684) (by decide +kernel)⟩
theorem lw_p27 : lw_okq (⟨"HistoryJudgeModel", "tryRows", "(II)Z"⟩, 18) := ⟨⟨by decide +kernel, by decide +kernel⟩, List.mem_of_getElem? (i := 535) (by decide +kernel), List.mem_of_getElem? (i := 687) (by decide +kernel), List.mem_of_getElem? (i := 688) (by decide +kernel)⟩
theorem lw_p28 : lw_okq (⟨"HistoryJudgeModel", "fits", "(III)Z"⟩, 18) := ⟨⟨by decide +kernel, by decide +kernel⟩, List.mem_of_getElem? (i := 535) (by decide +kernel), List.mem_of_getElem? (i := 691) (by decide +kernel), List.mem_of_getElem? (i := 692) (by decide +kernel)⟩
theorem lw_p29 : lw_okq (⟨"HistoryJudgeModel", "inRow", "(II)Z"⟩, 18) := ⟨⟨by decide +kernel, by decide +kernel⟩, List.mem_of_getElem? (i := 535) (by decide +kernel), List.mem_of_getElem? (i := 695) (by decide +kernel), List.mem_of_getElem? (i := 696) (by decide +kernel)⟩
theorem lw_p30 : lw_okq (⟨"HistoryJudgeModel", "closes", "(II)Z"⟩, 18) := ⟨⟨by decide +kernel, by decide +kernel⟩, List.mem_of_getElem? (i := 535) (by decide +kernel), List.mem_of_getElem? (i := 702) (by decide +kernel), List.mem_of_getElem? (i := 703) (by decide +kernel)⟩
theorem lw_p31 : lw_okq (⟨"HistoryJudgeModel", "allFlaws", "()I"⟩, 18) := ⟨⟨by decide +kernel, by decide +kernel⟩, List.mem_of_getElem? (i := 535) (by decide +kernel), List.mem_of_getElem? (i := 714) (by decide +kernel), List.mem_of_getElem? (i := 715) (by decide +kernel)⟩
def lw_privs_2 : List (MethodName × Nat) := [(⟨"HistoryJudgeModel", "note", "(IIIZ)V"⟩, 18), (⟨"HistoryJudgeModel", "isVersion", "(II)Z"⟩, 18), (⟨"HistoryJudgeModel", "isFinal", "(I)Z"⟩, 18), (⟨"HistoryJudgeModel", "edge", "(II)I"⟩, 18), (⟨"HistoryJudgeModel", "isCommitted", "(I)Z"⟩, 18), (⟨"HistoryJudgeModel", "follows", "(II)Z"⟩, 18), (⟨"HistoryJudgeModel", "nextOf", "(II)I"⟩, 18), (⟨"HistoryJudgeModel", "hasRead", "(II)Z"⟩, 18), (⟨"HistoryJudgeModel", "overtaken", "(II)Z"⟩, 18), (⟨"HistoryJudgeModel", "findCycle", "(I)I"⟩, 18), (⟨"HistoryJudgeModel", "draw", "()V"⟩, 18), (⟨"HistoryJudgeModel", "tryRows", "(II)Z"⟩, 18), (⟨"HistoryJudgeModel", "fits", "(III)Z"⟩, 18), (⟨"HistoryJudgeModel", "inRow", "(II)Z"⟩, 18), (⟨"HistoryJudgeModel", "closes", "(II)Z"⟩, 18), (⟨"HistoryJudgeModel", "allFlaws", "()I"⟩, 18)]
theorem lw_r2 : ∀ q ∈ lw_privs_2, lw_okq q := List.forall_mem_cons.mpr ⟨lw_p16, List.forall_mem_cons.mpr ⟨lw_p17, List.forall_mem_cons.mpr ⟨lw_p18, List.forall_mem_cons.mpr ⟨lw_p19, List.forall_mem_cons.mpr ⟨lw_p20, List.forall_mem_cons.mpr ⟨lw_p21, List.forall_mem_cons.mpr ⟨lw_p22, List.forall_mem_cons.mpr ⟨lw_p23, List.forall_mem_cons.mpr ⟨lw_p24, List.forall_mem_cons.mpr ⟨lw_p25, List.forall_mem_cons.mpr ⟨lw_p26, List.forall_mem_cons.mpr ⟨lw_p27, List.forall_mem_cons.mpr ⟨lw_p28, List.forall_mem_cons.mpr ⟨lw_p29, List.forall_mem_cons.mpr ⟨lw_p30, List.forall_mem_cons.mpr ⟨lw_p31, fun _ h => absurd h List.not_mem_nil⟩⟩⟩⟩⟩⟩⟩⟩⟩⟩⟩⟩⟩⟩⟩⟩
theorem lw_p32 : lw_okq (⟨"HistoryJudgeModel", "readFlaws", "()I"⟩, 18) := ⟨⟨by decide +kernel, by decide +kernel⟩, List.mem_of_getElem? (i := 535) (by decide +kernel), List.mem_of_getElem? (i := 718) (by decide +kernel), List.mem_of_getElem? (i := 719) (by decide +kernel)⟩
theorem lw_p33 : lw_okq (⟨"HistoryJudgeModel", "tryOrders", "(II)Z"⟩, 18) := ⟨⟨by decide +kernel, by decide +kernel⟩, List.mem_of_getElem? (i := 535) (by decide +kernel), List.mem_of_getElem? (i := 730) (by decide +kernel), List.mem_of_getElem? (i := 731) (by decide +kernel)⟩
theorem lw_p34 : lw_okq (⟨"HistoryJudgeModel", "committed", "()I"⟩, 18) := ⟨⟨by decide +kernel, by decide +kernel⟩, List.mem_of_getElem? (i := 535) (by decide +kernel), List.mem_of_getElem? (i := 734) (by decide +kernel), List.mem_of_getElem? (i := 735) (by decide +kernel)⟩
theorem lw_p35 : lw_okq (⟨"HistoryJudgeModel", "runs", "(II)Z"⟩, 18) := ⟨⟨by decide +kernel, by decide +kernel⟩, List.mem_of_getElem? (i := 535) (by decide +kernel), List.mem_of_getElem? (i := 738) (by decide +kernel), List.mem_of_getElem? (i := 739) (by decide +kernel)⟩
def lw_privs_3 : List (MethodName × Nat) := [(⟨"HistoryJudgeModel", "readFlaws", "()I"⟩, 18), (⟨"HistoryJudgeModel", "tryOrders", "(II)Z"⟩, 18), (⟨"HistoryJudgeModel", "committed", "()I"⟩, 18), (⟨"HistoryJudgeModel", "runs", "(II)Z"⟩, 18)]
theorem lw_r3 : ∀ q ∈ lw_privs_3, lw_okq q := List.forall_mem_cons.mpr ⟨lw_p32, List.forall_mem_cons.mpr ⟨lw_p33, List.forall_mem_cons.mpr ⟨lw_p34, List.forall_mem_cons.mpr ⟨lw_p35, fun _ h => absurd h List.not_mem_nil⟩⟩⟩⟩
def lw_privs : List (MethodName × Nat) := lw_privs_1 ++ (lw_privs_2 ++ (lw_privs_3))
def lw_tbl : List Cond := k2_sels lw_privs ++ tables_1
theorem lw_privs_ok : ∀ q ∈ lw_privs, lw_okq q := by
  show ∀ q ∈ lw_privs_1 ++ (lw_privs_2 ++ (lw_privs_3)), lw_okq q
  exact List.forall_mem_append.mpr ⟨lw_r1, List.forall_mem_append.mpr ⟨lw_r2, lw_r3⟩⟩
/-! names: the words of the tables that the walks use, the methods, their bytes -/
def jW0 : List Cond := [
  .selects "HistoryJudge$Graph" ⟨"HistoryJudge$Graph", "drawOrder", "(LHistoryJudge$History;I)V"⟩ ⟨"HistoryJudge$Graph", "drawOrder", "(LHistoryJudge$History;I)V"⟩,
  .selects "HistoryJudge$Graph" ⟨"HistoryJudge$Graph", "drawRead", "(LHistoryJudge$History;I)V"⟩ ⟨"HistoryJudge$Graph", "drawRead", "(LHistoryJudge$History;I)V"⟩,
  .selects "HistoryJudge$History" ⟨"HistoryJudge$History", "placeBehind", "(II)I"⟩ ⟨"HistoryJudge$History", "placeBehind", "(II)I"⟩,
  .selects "HistoryJudge$CycleSearch" ⟨"HistoryJudge$CycleSearch", "sortEdges", "(LHistoryJudge$Graph;I)V"⟩ ⟨"HistoryJudge$CycleSearch", "sortEdges", "(LHistoryJudge$Graph;I)V"⟩,
  .selects "HistoryJudge$CycleSearch" ⟨"HistoryJudge$CycleSearch", "measure", "(I)V"⟩ ⟨"HistoryJudge$CycleSearch", "measure", "(I)V"⟩,
  .selects "HistoryJudge$CycleSearch" ⟨"HistoryJudge$CycleSearch", "trace", "(IIZ)V"⟩ ⟨"HistoryJudge$CycleSearch", "trace", "(IIZ)V"⟩,
  .selects "HistoryJudge$History" ⟨"HistoryJudge$History", "isJudgedRead", "(I)Z"⟩ ⟨"HistoryJudge$History", "isJudgedRead", "(I)Z"⟩,
  .selects "HistoryJudge$History" ⟨"HistoryJudge$History", "isOfAnotherCommitted", "(I)Z"⟩ ⟨"HistoryJudge$History", "isOfAnotherCommitted", "(I)Z"⟩,
  .selects "HistoryJudge$SerialSearch" ⟨"HistoryJudge$SerialSearch", "takeReads", "(LHistoryJudge$History;)V"⟩ ⟨"HistoryJudge$SerialSearch", "takeReads", "(LHistoryJudge$History;)V"⟩,
  .selects "HistoryJudge$SerialSearch" ⟨"HistoryJudge$SerialSearch", "takeRead", "(LHistoryJudge$History;I)V"⟩ ⟨"HistoryJudge$SerialSearch", "takeRead", "(LHistoryJudge$History;I)V"⟩,
  .selects "HistoryJudge$SerialSearch" ⟨"HistoryJudge$SerialSearch", "takeFirstRead", "(LHistoryJudge$History;II)V"⟩ ⟨"HistoryJudge$SerialSearch", "takeFirstRead", "(LHistoryJudge$History;II)V"⟩,
  .selects "HistoryJudge$SerialSearch" ⟨"HistoryJudge$SerialSearch", "takeForeignRead", "(LHistoryJudge$History;II)V"⟩ ⟨"HistoryJudge$SerialSearch", "takeForeignRead", "(LHistoryJudge$History;II)V"⟩,
  .selects "HistoryJudge$SerialSearch" ⟨"HistoryJudge$SerialSearch", "followers", "(I)I"⟩ ⟨"HistoryJudge$SerialSearch", "followers", "(I)I"⟩,
  .selects "HistoryJudge$SerialSearch" ⟨"HistoryJudge$SerialSearch", "mayFollow", "(II)Z"⟩ ⟨"HistoryJudge$SerialSearch", "mayFollow", "(II)Z"⟩,
  .selects "HistoryJudge$SerialSearch" ⟨"HistoryJudge$SerialSearch", "canBeEnded", "(I)Z"⟩ ⟨"HistoryJudge$SerialSearch", "canBeEnded", "(I)Z"⟩,
  .selects "HistoryJudgeModel" ⟨"HistoryJudgeModel", "note", "(IIIZ)V"⟩ ⟨"HistoryJudgeModel", "note", "(IIIZ)V"⟩,
  .selects "HistoryJudgeModel" ⟨"HistoryJudgeModel", "isVersion", "(II)Z"⟩ ⟨"HistoryJudgeModel", "isVersion", "(II)Z"⟩,
  .selects "HistoryJudgeModel" ⟨"HistoryJudgeModel", "isFinal", "(I)Z"⟩ ⟨"HistoryJudgeModel", "isFinal", "(I)Z"⟩,
  .selects "HistoryJudgeModel" ⟨"HistoryJudgeModel", "edge", "(II)I"⟩ ⟨"HistoryJudgeModel", "edge", "(II)I"⟩,
  .selects "HistoryJudgeModel" ⟨"HistoryJudgeModel", "isCommitted", "(I)Z"⟩ ⟨"HistoryJudgeModel", "isCommitted", "(I)Z"⟩,
  .selects "HistoryJudgeModel" ⟨"HistoryJudgeModel", "follows", "(II)Z"⟩ ⟨"HistoryJudgeModel", "follows", "(II)Z"⟩,
  .selects "HistoryJudgeModel" ⟨"HistoryJudgeModel", "nextOf", "(II)I"⟩ ⟨"HistoryJudgeModel", "nextOf", "(II)I"⟩,
  .selects "HistoryJudgeModel" ⟨"HistoryJudgeModel", "hasRead", "(II)Z"⟩ ⟨"HistoryJudgeModel", "hasRead", "(II)Z"⟩,
  .selects "HistoryJudgeModel" ⟨"HistoryJudgeModel", "overtaken", "(II)Z"⟩ ⟨"HistoryJudgeModel", "overtaken", "(II)Z"⟩,
  .selects "HistoryJudgeModel" ⟨"HistoryJudgeModel", "findCycle", "(I)I"⟩ ⟨"HistoryJudgeModel", "findCycle", "(I)I"⟩,
  .selects "HistoryJudgeModel" ⟨"HistoryJudgeModel", "draw", "()V"⟩ ⟨"HistoryJudgeModel", "draw", "()V"⟩,
  .selects "HistoryJudgeModel" ⟨"HistoryJudgeModel", "tryRows", "(II)Z"⟩ ⟨"HistoryJudgeModel", "tryRows", "(II)Z"⟩,
  .selects "HistoryJudgeModel" ⟨"HistoryJudgeModel", "fits", "(III)Z"⟩ ⟨"HistoryJudgeModel", "fits", "(III)Z"⟩,
  .selects "HistoryJudgeModel" ⟨"HistoryJudgeModel", "inRow", "(II)Z"⟩ ⟨"HistoryJudgeModel", "inRow", "(II)Z"⟩,
  .selects "HistoryJudgeModel" ⟨"HistoryJudgeModel", "closes", "(II)Z"⟩ ⟨"HistoryJudgeModel", "closes", "(II)Z"⟩,
  .selects "HistoryJudgeModel" ⟨"HistoryJudgeModel", "allFlaws", "()I"⟩ ⟨"HistoryJudgeModel", "allFlaws", "()I"⟩,
  .selects "HistoryJudgeModel" ⟨"HistoryJudgeModel", "readFlaws", "()I"⟩ ⟨"HistoryJudgeModel", "readFlaws", "()I"⟩,
  .selects "HistoryJudgeModel" ⟨"HistoryJudgeModel", "tryOrders", "(II)Z"⟩ ⟨"HistoryJudgeModel", "tryOrders", "(II)Z"⟩,
  .selects "HistoryJudgeModel" ⟨"HistoryJudgeModel", "committed", "()I"⟩ ⟨"HistoryJudgeModel", "committed", "()I"⟩,
  .selects "HistoryJudgeModel" ⟨"HistoryJudgeModel", "runs", "(II)Z"⟩ ⟨"HistoryJudgeModel", "runs", "(II)Z"⟩,
  .initialized "HistoryJudgeLaw",
  .initialized "HistoryJudge",
  .initialized "HistoryJudge$History",
  .initialized "java/util/Arrays",
  .initialized "HistoryJudge$Graph",
  .initialized "HistoryJudge$CycleSearch",
  .initialized "HistoryJudge$SerialSearch",
  .initialized "HistoryJudgeModel",
  .initialized "java/lang/Throwable",
  .initialized "java/lang/Exception",
  .initialized "java/lang/RuntimeException",
  .initialized "java/lang/IllegalArgumentException",
  .initialized "java/lang/IllegalStateException",
  .initialized "java/lang/UnsupportedOperationException",
  .initialized "java/util/NoSuchElementException",
  .initialized "java/lang/Integer",
  .classLink "HistoryJudgeLaw" 8 "HistoryJudge",
  .instantiable "HistoryJudge" 4,
  .methodLink "HistoryJudgeLaw" 29 ⟨"HistoryJudge", "<init>", "()V"⟩,
  .instanceMethod ⟨"HistoryJudge", "<init>", "()V"⟩,
  .code ⟨"HistoryJudge", "<init>", "()V"⟩ prog_1_method_1_code 1 none,
  .methodLink "HistoryJudge" 1 ⟨"java/lang/Object", "<init>", "()V"⟩,
  .instanceMethod ⟨"java/lang/Object", "<init>", "()V"⟩,
  .code ⟨"java/lang/Object", "<init>", "()V"⟩ object_method_1_code 1 none,
  .classLink "HistoryJudge" 7 "HistoryJudge$History"]
def jW1 : List Cond := [
  .instantiable "HistoryJudge$History" 12,
  .methodLink "HistoryJudge" 9 ⟨"HistoryJudge$History", "<init>", "()V"⟩,
  .instanceMethod ⟨"HistoryJudge$History", "<init>", "()V"⟩,
  .code ⟨"HistoryJudge$History", "<init>", "()V"⟩ prog_4_method_1_code 1 none,
  .methodLink "HistoryJudge$History" 3 ⟨"java/lang/Object", "<init>", "()V"⟩,
  .classLink "HistoryJudge$History" 33 "[[I",
  .methodLink "HistoryJudge$History" 44 ⟨"HistoryJudge$History", "reset", "()V"⟩,
  .instanceMethod ⟨"HistoryJudge$History", "reset", "()V"⟩,
  .selects "HistoryJudge$History" ⟨"HistoryJudge$History", "reset", "()V"⟩ ⟨"HistoryJudge$History", "reset", "()V"⟩,
  .code ⟨"HistoryJudge$History", "reset", "()V"⟩ prog_4_method_2_code 2 none,
  .methodLink "HistoryJudge$History" 54 ⟨"java/util/Arrays", "fill", "([II)V"⟩,
  .static ⟨"java/util/Arrays", "fill", "([II)V"⟩,
  .code ⟨"java/util/Arrays", "fill", "([II)V"⟩ prog_15_method_103_code 4 none,
  .fieldLink "HistoryJudge$History" 9 "HistoryJudge$History" "states" "[I",
  .fieldLink "HistoryJudge" 78 "HistoryJudge$History" "states" "[I",
  .fieldLink "HistoryJudge$History" 15 "HistoryJudge$History" "writers" "[I",
  .fieldLink "HistoryJudge$Graph" 54 "HistoryJudge$History" "writers" "[I",
  .fieldLink "HistoryJudge$SerialSearch" 96 "HistoryJudge$History" "writers" "[I",
  .fieldLink "HistoryJudge$History" 18 "HistoryJudge$History" "writtenItems" "[I",
  .fieldLink "HistoryJudge$History" 47 "HistoryJudge$History" "versions" "I",
  .fieldLink "HistoryJudge" 53 "HistoryJudge$History" "versions" "I",
  .fieldLink "HistoryJudge$History" 21 "HistoryJudge$History" "readers" "[I",
  .fieldLink "HistoryJudge$Graph" 37 "HistoryJudge$History" "readers" "[I",
  .fieldLink "HistoryJudge$SerialSearch" 73 "HistoryJudge$History" "readers" "[I",
  .fieldLink "HistoryJudge$History" 24 "HistoryJudge$History" "readItems" "[I",
  .fieldLink "HistoryJudge$Graph" 64 "HistoryJudge$History" "readItems" "[I",
  .fieldLink "HistoryJudge$SerialSearch" 89 "HistoryJudge$History" "readItems" "[I",
  .fieldLink "HistoryJudge$History" 27 "HistoryJudge$History" "readVersions" "[I",
  .fieldLink "HistoryJudge$Graph" 61 "HistoryJudge$History" "readVersions" "[I",
  .fieldLink "HistoryJudge$SerialSearch" 83 "HistoryJudge$History" "readVersions" "[I",
  .fieldLink "HistoryJudge$History" 30 "HistoryJudge$History" "ownVersions" "[I",
  .fieldLink "HistoryJudge$SerialSearch" 86 "HistoryJudge$History" "ownVersions" "[I",
  .fieldLink "HistoryJudge$History" 51 "HistoryJudge$History" "reads" "I",
  .fieldLink "HistoryJudge$Graph" 31 "HistoryJudge$History" "reads" "I",
  .fieldLink "HistoryJudge" 71 "HistoryJudge$History" "reads" "I",
  .fieldLink "HistoryJudge$SerialSearch" 70 "HistoryJudge$History" "reads" "I",
  .fieldLink "HistoryJudge$History" 35 "HistoryJudge$History" "latest" "[[I",
  .fieldLink "HistoryJudge$History" 38 "HistoryJudge$History" "order" "[[I",
  .fieldLink "HistoryJudge$Graph" 47 "HistoryJudge$History" "order" "[[I",
  .fieldLink "HistoryJudge" 89 "HistoryJudge$History" "order" "[[I",
  .fieldLink "HistoryJudge$History" 41 "HistoryJudge$History" "ordered" "[I",
  .fieldLink "HistoryJudge$Graph" 51 "HistoryJudge$History" "ordered" "[I",
  .fieldLink "HistoryJudge" 86 "HistoryJudge$History" "ordered" "[I",
  .laysFinal "HistoryJudge$History" "HistoryJudge$History" "states" "[I",
  .laysFinal "HistoryJudge$History" "HistoryJudge$History" "writers" "[I",
  .laysFinal "HistoryJudge$History" "HistoryJudge$History" "writtenItems" "[I",
  .lays "HistoryJudge$History" "HistoryJudge$History" "versions" "I",
  .laysFinal "HistoryJudge$History" "HistoryJudge$History" "readers" "[I",
  .laysFinal "HistoryJudge$History" "HistoryJudge$History" "readItems" "[I",
  .laysFinal "HistoryJudge$History" "HistoryJudge$History" "readVersions" "[I",
  .laysFinal "HistoryJudge$History" "HistoryJudge$History" "ownVersions" "[I",
  .lays "HistoryJudge$History" "HistoryJudge$History" "reads" "I",
  .laysFinal "HistoryJudge$History" "HistoryJudge$History" "latest" "[[I",
  .laysFinal "HistoryJudge$History" "HistoryJudge$History" "order" "[[I",
  .laysFinal "HistoryJudge$History" "HistoryJudge$History" "ordered" "[I",
  .arrayClass FieldType.int,
  .classLink "HistoryJudge" 16 "HistoryJudge$Graph",
  .instantiable "HistoryJudge$Graph" 3,
  .instanceMethod ⟨"HistoryJudge$Graph", "<init>", "()V"⟩,
  .code ⟨"HistoryJudge$Graph", "<init>", "()V"⟩ prog_3_method_1_code 1 none]
def jW2 : List Cond := [
  .methodLink "HistoryJudge$Graph" 3 ⟨"java/lang/Object", "<init>", "()V"⟩,
  .fieldLink "HistoryJudge$Graph" 9 "HistoryJudge$Graph" "ww" "[I",
  .fieldLink "HistoryJudge$CycleSearch" 51 "HistoryJudge$Graph" "ww" "[I",
  .fieldLink "HistoryJudge" 97 "HistoryJudge$Graph" "ww" "[I",
  .fieldLink "HistoryJudge$Graph" 15 "HistoryJudge$Graph" "wr" "[I",
  .fieldLink "HistoryJudge$CycleSearch" 43 "HistoryJudge$Graph" "wr" "[I",
  .fieldLink "HistoryJudge" 103 "HistoryJudge$Graph" "wr" "[I",
  .fieldLink "HistoryJudge$Graph" 18 "HistoryJudge$Graph" "rw" "[I",
  .fieldLink "HistoryJudge$CycleSearch" 48 "HistoryJudge$Graph" "rw" "[I",
  .fieldLink "HistoryJudge" 106 "HistoryJudge$Graph" "rw" "[I",
  .laysFinal "HistoryJudge$Graph" "HistoryJudge$Graph" "ww" "[I",
  .laysFinal "HistoryJudge$Graph" "HistoryJudge$Graph" "wr" "[I",
  .laysFinal "HistoryJudge$Graph" "HistoryJudge$Graph" "rw" "[I",
  .classLink "HistoryJudge" 23 "HistoryJudge$CycleSearch",
  .instantiable "HistoryJudge$CycleSearch" 5,
  .instanceMethod ⟨"HistoryJudge$CycleSearch", "<init>", "()V"⟩,
  .code ⟨"HistoryJudge$CycleSearch", "<init>", "()V"⟩ prog_2_method_1_code 1 none,
  .methodLink "HistoryJudge$CycleSearch" 3 ⟨"java/lang/Object", "<init>", "()V"⟩,
  .fieldLink "HistoryJudge$CycleSearch" 9 "HistoryJudge$CycleSearch" "plain" "[I",
  .fieldLink "HistoryJudge$CycleSearch" 15 "HistoryJudge$CycleSearch" "marked" "[I",
  .fieldLink "HistoryJudge$CycleSearch" 18 "HistoryJudge$CycleSearch" "paid" "[I",
  .fieldLink "HistoryJudge$CycleSearch" 21 "HistoryJudge$CycleSearch" "owing" "[I",
  .fieldLink "HistoryJudge$CycleSearch" 24 "HistoryJudge$CycleSearch" "row" "[I",
  .fieldLink "HistoryJudge" 128 "HistoryJudge$CycleSearch" "row" "[I",
  .laysFinal "HistoryJudge$CycleSearch" "HistoryJudge$CycleSearch" "plain" "[I",
  .laysFinal "HistoryJudge$CycleSearch" "HistoryJudge$CycleSearch" "marked" "[I",
  .laysFinal "HistoryJudge$CycleSearch" "HistoryJudge$CycleSearch" "paid" "[I",
  .laysFinal "HistoryJudge$CycleSearch" "HistoryJudge$CycleSearch" "owing" "[I",
  .laysFinal "HistoryJudge$CycleSearch" "HistoryJudge$CycleSearch" "row" "[I",
  .classLink "HistoryJudge" 30 "HistoryJudge$SerialSearch",
  .instantiable "HistoryJudge$SerialSearch" 5,
  .instanceMethod ⟨"HistoryJudge$SerialSearch", "<init>", "()V"⟩,
  .code ⟨"HistoryJudge$SerialSearch", "<init>", "()V"⟩ prog_5_method_1_code 1 none,
  .methodLink "HistoryJudge$SerialSearch" 3 ⟨"java/lang/Object", "<init>", "()V"⟩,
  .classLink "HistoryJudge$SerialSearch" 15 "[[I",
  .fieldLink "HistoryJudge$SerialSearch" 9 "HistoryJudge$SerialSearch" "before" "[I",
  .fieldLink "HistoryJudge$SerialSearch" 17 "HistoryJudge$SerialSearch" "readersBetween" "[[I",
  .fieldLink "HistoryJudge$SerialSearch" 20 "HistoryJudge$SerialSearch" "nexts" "[I",
  .fieldLink "HistoryJudge" 140 "HistoryJudge$SerialSearch" "nexts" "[I",
  .fieldLink "HistoryJudge$SerialSearch" 31 "HistoryJudge$SerialSearch" "committed" "I",
  .fieldLink "HistoryJudge$SerialSearch" 27 "HistoryJudge$SerialSearch" "sound" "Z",
  .laysFinal "HistoryJudge$SerialSearch" "HistoryJudge$SerialSearch" "before" "[I",
  .laysFinal "HistoryJudge$SerialSearch" "HistoryJudge$SerialSearch" "readersBetween" "[[I",
  .laysFinal "HistoryJudge$SerialSearch" "HistoryJudge$SerialSearch" "nexts" "[I",
  .lays "HistoryJudge$SerialSearch" "HistoryJudge$SerialSearch" "committed" "I",
  .lays "HistoryJudge$SerialSearch" "HistoryJudge$SerialSearch" "sound" "Z",
  .fieldLink "HistoryJudge" 10 "HistoryJudge" "history" "LHistoryJudge$History;",
  .fieldLink "HistoryJudge" 19 "HistoryJudge" "graph" "LHistoryJudge$Graph;",
  .fieldLink "HistoryJudge" 26 "HistoryJudge" "cycles" "LHistoryJudge$CycleSearch;",
  .fieldLink "HistoryJudge" 33 "HistoryJudge" "serials" "LHistoryJudge$SerialSearch;",
  .laysFinal "HistoryJudge" "HistoryJudge" "history" "LHistoryJudge$History;",
  .laysFinal "HistoryJudge" "HistoryJudge" "graph" "LHistoryJudge$Graph;",
  .laysFinal "HistoryJudge" "HistoryJudge" "cycles" "LHistoryJudge$CycleSearch;",
  .laysFinal "HistoryJudge" "HistoryJudge" "serials" "LHistoryJudge$SerialSearch;",
  .methodLink "HistoryJudgeLaw" 51 ⟨"HistoryJudge", "state", "(I)I"⟩,
  .instanceMethod ⟨"HistoryJudge", "state", "(I)I"⟩,
  .selects "HistoryJudge" ⟨"HistoryJudge", "state", "(I)I"⟩ ⟨"HistoryJudge", "state", "(I)I"⟩,
  .code ⟨"HistoryJudge", "state", "(I)I"⟩ prog_1_method_5_code 2 (some FieldType.int),
  .methodLink "HistoryJudge" 37 ⟨"HistoryJudge", "isTransaction", "(I)Z"⟩,
  .static ⟨"HistoryJudge", "isTransaction", "(I)Z"⟩]
def jW3 : List Cond := [
  .code ⟨"HistoryJudge", "isTransaction", "(I)Z"⟩ prog_1_method_17_code 1 (some FieldType.boolean),
  .methodLink "HistoryJudgeLaw" 56 ⟨"HistoryJudge", "version", "(II)I"⟩,
  .instanceMethod ⟨"HistoryJudge", "version", "(II)I"⟩,
  .selects "HistoryJudge" ⟨"HistoryJudge", "version", "(II)I"⟩ ⟨"HistoryJudge", "version", "(II)I"⟩,
  .code ⟨"HistoryJudge", "version", "(II)I"⟩ prog_1_method_6_code 3 (some FieldType.int),
  .methodLink "HistoryJudge" 41 ⟨"HistoryJudge", "isItem", "(I)Z"⟩,
  .static ⟨"HistoryJudge", "isItem", "(I)Z"⟩,
  .code ⟨"HistoryJudge", "isItem", "(I)Z"⟩ prog_1_method_18_code 1 (some FieldType.boolean),
  .methodLink "HistoryJudgeLaw" 60 ⟨"HistoryJudge", "exchange", "(II)Z"⟩,
  .instanceMethod ⟨"HistoryJudge", "exchange", "(II)Z"⟩,
  .selects "HistoryJudge" ⟨"HistoryJudge", "exchange", "(II)Z"⟩ ⟨"HistoryJudge", "exchange", "(II)Z"⟩,
  .code ⟨"HistoryJudge", "exchange", "(II)Z"⟩ prog_1_method_7_code 5 (some FieldType.boolean),
  .methodLink "HistoryJudgeLaw" 65 ⟨"HistoryJudge", "edges", "(II)I"⟩,
  .instanceMethod ⟨"HistoryJudge", "edges", "(II)I"⟩,
  .selects "HistoryJudge" ⟨"HistoryJudge", "edges", "(II)I"⟩ ⟨"HistoryJudge", "edges", "(II)I"⟩,
  .code ⟨"HistoryJudge", "edges", "(II)I"⟩ prog_1_method_8_code 3 (some FieldType.int),
  .methodLink "HistoryJudge" 93 ⟨"HistoryJudge$Graph", "draw", "(LHistoryJudge$History;)V"⟩,
  .instanceMethod ⟨"HistoryJudge$Graph", "draw", "(LHistoryJudge$History;)V"⟩,
  .selects "HistoryJudge$Graph" ⟨"HistoryJudge$Graph", "draw", "(LHistoryJudge$History;)V"⟩ ⟨"HistoryJudge$Graph", "draw", "(LHistoryJudge$History;)V"⟩,
  .code ⟨"HistoryJudge$Graph", "draw", "(LHistoryJudge$History;)V"⟩ prog_3_method_2_code 3 none,
  .methodLink "HistoryJudge$Graph" 21 ⟨"java/util/Arrays", "fill", "([II)V"⟩,
  .methodLink "HistoryJudge$Graph" 27 ⟨"HistoryJudge$Graph", "drawOrder", "(LHistoryJudge$History;I)V"⟩,
  .instanceMethod ⟨"HistoryJudge$Graph", "drawOrder", "(LHistoryJudge$History;I)V"⟩,
  .code ⟨"HistoryJudge$Graph", "drawOrder", "(LHistoryJudge$History;I)V"⟩ prog_3_method_3_code 5 none,
  .methodLink "HistoryJudge$Graph" 57 ⟨"HistoryJudge$Graph", "join", "([III)V"⟩,
  .static ⟨"HistoryJudge$Graph", "join", "([III)V"⟩,
  .code ⟨"HistoryJudge$Graph", "join", "([III)V"⟩ prog_3_method_5_code 3 none,
  .static ⟨"HistoryJudge", "only", "(I)I"⟩,
  .code ⟨"HistoryJudge", "only", "(I)I"⟩ prog_1_method_19_code 1 (some FieldType.int),
  .methodLink "HistoryJudge$Graph" 40 ⟨"HistoryJudge$History", "isCommitted", "(I)Z"⟩,
  .instanceMethod ⟨"HistoryJudge$History", "isCommitted", "(I)Z"⟩,
  .selects "HistoryJudge$History" ⟨"HistoryJudge$History", "isCommitted", "(I)Z"⟩ ⟨"HistoryJudge$History", "isCommitted", "(I)Z"⟩,
  .code ⟨"HistoryJudge$History", "isCommitted", "(I)Z"⟩ prog_4_method_4_code 2 (some FieldType.boolean),
  .methodLink "HistoryJudge$Graph" 44 ⟨"HistoryJudge$Graph", "drawRead", "(LHistoryJudge$History;I)V"⟩,
  .instanceMethod ⟨"HistoryJudge$Graph", "drawRead", "(LHistoryJudge$History;I)V"⟩,
  .code ⟨"HistoryJudge$Graph", "drawRead", "(LHistoryJudge$History;I)V"⟩ prog_3_method_4_code 6 none,
  .methodLink "HistoryJudge$Graph" 67 ⟨"HistoryJudge$History", "writerOfNext", "(II)I"⟩,
  .instanceMethod ⟨"HistoryJudge$History", "writerOfNext", "(II)I"⟩,
  .selects "HistoryJudge$History" ⟨"HistoryJudge$History", "writerOfNext", "(II)I"⟩ ⟨"HistoryJudge$History", "writerOfNext", "(II)I"⟩,
  .code ⟨"HistoryJudge$History", "writerOfNext", "(II)I"⟩ prog_4_method_12_code 4 (some FieldType.int),
  .methodLink "HistoryJudge$History" 68 ⟨"HistoryJudge$History", "placeBehind", "(II)I"⟩,
  .instanceMethod ⟨"HistoryJudge$History", "placeBehind", "(II)I"⟩,
  .code ⟨"HistoryJudge$History", "placeBehind", "(II)I"⟩ prog_4_method_13_code 4 (some FieldType.int),
  .methodLink "HistoryJudge" 100 ⟨"HistoryJudge", "has", "(II)Z"⟩,
  .static ⟨"HistoryJudge", "has", "(II)Z"⟩,
  .code ⟨"HistoryJudge", "has", "(II)Z"⟩ prog_1_method_20_code 2 (some FieldType.boolean),
  .methodLink "HistoryJudge" 151 ⟨"HistoryJudge", "only", "(I)I"⟩,
  .methodLink "HistoryJudgeLaw" 69 ⟨"HistoryJudge", "flaws", "()I"⟩,
  .instanceMethod ⟨"HistoryJudge", "flaws", "()I"⟩,
  .selects "HistoryJudge" ⟨"HistoryJudge", "flaws", "()I"⟩ ⟨"HistoryJudge", "flaws", "()I"⟩,
  .code ⟨"HistoryJudge", "flaws", "()I"⟩ prog_1_method_9_code 1 (some FieldType.int),
  .methodLink "HistoryJudge" 109 ⟨"HistoryJudge$CycleSearch", "find", "(LHistoryJudge$Graph;I)I"⟩,
  .instanceMethod ⟨"HistoryJudge$CycleSearch", "find", "(LHistoryJudge$Graph;I)I"⟩,
  .selects "HistoryJudge$CycleSearch" ⟨"HistoryJudge$CycleSearch", "find", "(LHistoryJudge$Graph;I)I"⟩ ⟨"HistoryJudge$CycleSearch", "find", "(LHistoryJudge$Graph;I)I"⟩,
  .code ⟨"HistoryJudge$CycleSearch", "find", "(LHistoryJudge$Graph;I)I"⟩ prog_2_method_2_code 8 (some FieldType.int),
  .methodLink "HistoryJudge$CycleSearch" 27 ⟨"HistoryJudge$CycleSearch", "sortEdges", "(LHistoryJudge$Graph;I)V"⟩,
  .instanceMethod ⟨"HistoryJudge$CycleSearch", "sortEdges", "(LHistoryJudge$Graph;I)V"⟩,
  .code ⟨"HistoryJudge$CycleSearch", "sortEdges", "(LHistoryJudge$Graph;I)V"⟩ prog_2_method_3_code 6 none,
  .methodLink "HistoryJudge$CycleSearch" 31 ⟨"HistoryJudge$CycleSearch", "measure", "(I)V"⟩,
  .instanceMethod ⟨"HistoryJudge$CycleSearch", "measure", "(I)V"⟩]
def jW4 : List Cond := [
  .code ⟨"HistoryJudge$CycleSearch", "measure", "(I)V"⟩ prog_2_method_4_code 3 none,
  .methodLink "HistoryJudge$CycleSearch" 58 ⟨"HistoryJudge$CycleSearch", "leadingInto", "([II)I"⟩,
  .static ⟨"HistoryJudge$CycleSearch", "leadingInto", "([II)I"⟩,
  .code ⟨"HistoryJudge$CycleSearch", "leadingInto", "([II)I"⟩ prog_2_method_5_code 4 (some FieldType.int),
  .methodLink "HistoryJudge$CycleSearch" 35 ⟨"HistoryJudge$CycleSearch", "shortest", "([II)I"⟩,
  .static ⟨"HistoryJudge$CycleSearch", "shortest", "([II)I"⟩,
  .code ⟨"HistoryJudge$CycleSearch", "shortest", "([II)I"⟩ prog_2_method_6_code 3 (some FieldType.int),
  .methodLink "HistoryJudge$CycleSearch" 39 ⟨"HistoryJudge$CycleSearch", "trace", "(IIZ)V"⟩,
  .instanceMethod ⟨"HistoryJudge$CycleSearch", "trace", "(IIZ)V"⟩,
  .code ⟨"HistoryJudge$CycleSearch", "trace", "(IIZ)V"⟩ prog_2_method_7_code 13 none,
  .static ⟨"HistoryJudge", "least", "(I)I"⟩,
  .code ⟨"HistoryJudge", "least", "(I)I"⟩ prog_1_method_21_code 2 (some FieldType.int),
  .methodLink "HistoryJudge" 113 ⟨"HistoryJudge$History", "hasAbortedRead", "()Z"⟩,
  .instanceMethod ⟨"HistoryJudge$History", "hasAbortedRead", "()Z"⟩,
  .selects "HistoryJudge$History" ⟨"HistoryJudge$History", "hasAbortedRead", "()Z"⟩ ⟨"HistoryJudge$History", "hasAbortedRead", "()Z"⟩,
  .code ⟨"HistoryJudge$History", "hasAbortedRead", "()Z"⟩ prog_4_method_14_code 2 (some FieldType.boolean),
  .methodLink "HistoryJudge$History" 72 ⟨"HistoryJudge$History", "isJudgedRead", "(I)Z"⟩,
  .instanceMethod ⟨"HistoryJudge$History", "isJudgedRead", "(I)Z"⟩,
  .code ⟨"HistoryJudge$History", "isJudgedRead", "(I)Z"⟩ prog_4_method_16_code 2 (some FieldType.boolean),
  .methodLink "HistoryJudge$History" 60 ⟨"HistoryJudge$History", "isCommitted", "(I)Z"⟩,
  .methodLink "HistoryJudge" 117 ⟨"HistoryJudge$History", "hasUnfinishedRead", "()Z"⟩,
  .instanceMethod ⟨"HistoryJudge$History", "hasUnfinishedRead", "()Z"⟩,
  .selects "HistoryJudge$History" ⟨"HistoryJudge$History", "hasUnfinishedRead", "()Z"⟩ ⟨"HistoryJudge$History", "hasUnfinishedRead", "()Z"⟩,
  .code ⟨"HistoryJudge$History", "hasUnfinishedRead", "()Z"⟩ prog_4_method_15_code 2 (some FieldType.boolean),
  .methodLink "HistoryJudge$History" 75 ⟨"HistoryJudge$History", "isOfAnotherCommitted", "(I)Z"⟩,
  .instanceMethod ⟨"HistoryJudge$History", "isOfAnotherCommitted", "(I)Z"⟩,
  .code ⟨"HistoryJudge$History", "isOfAnotherCommitted", "(I)Z"⟩ prog_4_method_17_code 3 (some FieldType.boolean),
  .methodLink "HistoryJudge$History" 78 ⟨"HistoryJudge$History", "isFinal", "(I)Z"⟩,
  .instanceMethod ⟨"HistoryJudge$History", "isFinal", "(I)Z"⟩,
  .selects "HistoryJudge$History" ⟨"HistoryJudge$History", "isFinal", "(I)Z"⟩ ⟨"HistoryJudge$History", "isFinal", "(I)Z"⟩,
  .code ⟨"HistoryJudge$History", "isFinal", "(I)Z"⟩ prog_4_method_11_code 2 (some FieldType.boolean),
  .methodLink "HistoryJudgeLaw" 73 ⟨"HistoryJudge", "level", "()I"⟩,
  .instanceMethod ⟨"HistoryJudge", "level", "()I"⟩,
  .selects "HistoryJudge" ⟨"HistoryJudge", "level", "()I"⟩ ⟨"HistoryJudge", "level", "()I"⟩,
  .code ⟨"HistoryJudge", "level", "()I"⟩ prog_1_method_10_code 2 (some FieldType.int),
  .methodLink "HistoryJudge" 120 ⟨"HistoryJudge", "flaws", "()I"⟩,
  .methodLink "HistoryJudgeLaw" 77 ⟨"HistoryJudge", "cycle", "(I)I"⟩,
  .instanceMethod ⟨"HistoryJudge", "cycle", "(I)I"⟩,
  .selects "HistoryJudge" ⟨"HistoryJudge", "cycle", "(I)I"⟩ ⟨"HistoryJudge", "cycle", "(I)I"⟩,
  .code ⟨"HistoryJudge", "cycle", "(I)I"⟩ prog_1_method_11_code 2 (some FieldType.int),
  .methodLink "HistoryJudgeLaw" 81 ⟨"HistoryJudge", "step", "(II)I"⟩,
  .instanceMethod ⟨"HistoryJudge", "step", "(II)I"⟩,
  .selects "HistoryJudge" ⟨"HistoryJudge", "step", "(II)I"⟩ ⟨"HistoryJudge", "step", "(II)I"⟩,
  .code ⟨"HistoryJudge", "step", "(II)I"⟩ prog_1_method_12_code 4 (some FieldType.int),
  .methodLink "HistoryJudge" 124 ⟨"HistoryJudge", "cycle", "(I)I"⟩,
  .methodLink "HistoryJudgeLaw" 85 ⟨"HistoryJudge", "serial", "()Z"⟩,
  .instanceMethod ⟨"HistoryJudge", "serial", "()Z"⟩,
  .selects "HistoryJudge" ⟨"HistoryJudge", "serial", "()Z"⟩ ⟨"HistoryJudge", "serial", "()Z"⟩,
  .code ⟨"HistoryJudge", "serial", "()Z"⟩ prog_1_method_13_code 1 (some FieldType.boolean),
  .methodLink "HistoryJudge" 131 ⟨"HistoryJudge$SerialSearch", "explore", "(LHistoryJudge$History;)V"⟩,
  .instanceMethod ⟨"HistoryJudge$SerialSearch", "explore", "(LHistoryJudge$History;)V"⟩,
  .selects "HistoryJudge$SerialSearch" ⟨"HistoryJudge$SerialSearch", "explore", "(LHistoryJudge$History;)V"⟩ ⟨"HistoryJudge$SerialSearch", "explore", "(LHistoryJudge$History;)V"⟩,
  .code ⟨"HistoryJudge$SerialSearch", "explore", "(LHistoryJudge$History;)V"⟩ prog_5_method_2_code 4 none,
  .methodLink "HistoryJudge$SerialSearch" 23 ⟨"HistoryJudge$SerialSearch", "takeReads", "(LHistoryJudge$History;)V"⟩,
  .instanceMethod ⟨"HistoryJudge$SerialSearch", "takeReads", "(LHistoryJudge$History;)V"⟩,
  .code ⟨"HistoryJudge$SerialSearch", "takeReads", "(LHistoryJudge$History;)V"⟩ prog_5_method_5_code 3 none,
  .methodLink "HistoryJudge$SerialSearch" 58 ⟨"HistoryJudge$History", "committedSet", "()I"⟩,
  .instanceMethod ⟨"HistoryJudge$History", "committedSet", "()I"⟩,
  .selects "HistoryJudge$History" ⟨"HistoryJudge$History", "committedSet", "()I"⟩ ⟨"HistoryJudge$History", "committedSet", "()I"⟩,
  .code ⟨"HistoryJudge$History", "committedSet", "()I"⟩ prog_4_method_9_code 3 (some FieldType.int)]
def jW5 : List Cond := [
  .methodLink "HistoryJudge$SerialSearch" 64 ⟨"java/util/Arrays", "fill", "([II)V"⟩,
  .methodLink "HistoryJudge$SerialSearch" 76 ⟨"HistoryJudge$History", "isCommitted", "(I)Z"⟩,
  .methodLink "HistoryJudge$SerialSearch" 79 ⟨"HistoryJudge$SerialSearch", "takeRead", "(LHistoryJudge$History;I)V"⟩,
  .instanceMethod ⟨"HistoryJudge$SerialSearch", "takeRead", "(LHistoryJudge$History;I)V"⟩,
  .code ⟨"HistoryJudge$SerialSearch", "takeRead", "(LHistoryJudge$History;I)V"⟩ prog_5_method_6_code 4 none,
  .methodLink "HistoryJudge$SerialSearch" 92 ⟨"HistoryJudge$SerialSearch", "takeFirstRead", "(LHistoryJudge$History;II)V"⟩,
  .instanceMethod ⟨"HistoryJudge$SerialSearch", "takeFirstRead", "(LHistoryJudge$History;II)V"⟩,
  .code ⟨"HistoryJudge$SerialSearch", "takeFirstRead", "(LHistoryJudge$History;II)V"⟩ prog_5_method_7_code 5 none,
  .methodLink "HistoryJudge$SerialSearch" 109 ⟨"HistoryJudge$History", "hasWritten", "(II)Z"⟩,
  .instanceMethod ⟨"HistoryJudge$History", "hasWritten", "(II)Z"⟩,
  .selects "HistoryJudge$History" ⟨"HistoryJudge$History", "hasWritten", "(II)Z"⟩ ⟨"HistoryJudge$History", "hasWritten", "(II)Z"⟩,
  .code ⟨"HistoryJudge$History", "hasWritten", "(II)Z"⟩ prog_4_method_10_code 3 (some FieldType.boolean),
  .methodLink "HistoryJudge$SerialSearch" 99 ⟨"HistoryJudge$History", "isFinal", "(I)Z"⟩,
  .methodLink "HistoryJudge$SerialSearch" 102 ⟨"HistoryJudge$SerialSearch", "takeForeignRead", "(LHistoryJudge$History;II)V"⟩,
  .instanceMethod ⟨"HistoryJudge$SerialSearch", "takeForeignRead", "(LHistoryJudge$History;II)V"⟩,
  .code ⟨"HistoryJudge$SerialSearch", "takeForeignRead", "(LHistoryJudge$History;II)V"⟩ prog_5_method_8_code 7 none,
  .methodLink "HistoryJudge$SerialSearch" 35 ⟨"HistoryJudge$SerialSearch", "followers", "(I)I"⟩,
  .instanceMethod ⟨"HistoryJudge$SerialSearch", "followers", "(I)I"⟩,
  .code ⟨"HistoryJudge$SerialSearch", "followers", "(I)I"⟩ prog_5_method_9_code 5 (some FieldType.int),
  .methodLink "HistoryJudge$SerialSearch" 112 ⟨"HistoryJudge$SerialSearch", "mayFollow", "(II)Z"⟩,
  .instanceMethod ⟨"HistoryJudge$SerialSearch", "mayFollow", "(II)Z"⟩,
  .code ⟨"HistoryJudge$SerialSearch", "mayFollow", "(II)Z"⟩ prog_5_method_10_code 4 (some FieldType.boolean),
  .methodLink "HistoryJudge$SerialSearch" 39 ⟨"HistoryJudge$SerialSearch", "canBeEnded", "(I)Z"⟩,
  .instanceMethod ⟨"HistoryJudge$SerialSearch", "canBeEnded", "(I)Z"⟩,
  .code ⟨"HistoryJudge$SerialSearch", "canBeEnded", "(I)Z"⟩ prog_5_method_11_code 2 (some FieldType.boolean),
  .methodLink "HistoryJudge" 134 ⟨"HistoryJudge$SerialSearch", "isPossible", "()Z"⟩,
  .instanceMethod ⟨"HistoryJudge$SerialSearch", "isPossible", "()Z"⟩,
  .selects "HistoryJudge$SerialSearch" ⟨"HistoryJudge$SerialSearch", "isPossible", "()Z"⟩ ⟨"HistoryJudge$SerialSearch", "isPossible", "()Z"⟩,
  .code ⟨"HistoryJudge$SerialSearch", "isPossible", "()Z"⟩ prog_5_method_3_code 1 (some FieldType.boolean),
  .methodLink "HistoryJudgeLaw" 90 ⟨"HistoryJudge", "place", "(I)I"⟩,
  .instanceMethod ⟨"HistoryJudge", "place", "(I)I"⟩,
  .selects "HistoryJudge" ⟨"HistoryJudge", "place", "(I)I"⟩ ⟨"HistoryJudge", "place", "(I)I"⟩,
  .code ⟨"HistoryJudge", "place", "(I)I"⟩ prog_1_method_14_code 2 (some FieldType.int),
  .methodLink "HistoryJudge" 137 ⟨"HistoryJudge$SerialSearch", "transactionAt", "(I)I"⟩,
  .instanceMethod ⟨"HistoryJudge$SerialSearch", "transactionAt", "(I)I"⟩,
  .selects "HistoryJudge$SerialSearch" ⟨"HistoryJudge$SerialSearch", "transactionAt", "(I)I"⟩ ⟨"HistoryJudge$SerialSearch", "transactionAt", "(I)I"⟩,
  .code ⟨"HistoryJudge$SerialSearch", "transactionAt", "(I)I"⟩ prog_5_method_4_code 4 (some FieldType.int),
  .methodLink "HistoryJudge$SerialSearch" 43 ⟨"HistoryJudge$SerialSearch", "isPossible", "()Z"⟩,
  .methodLink "HistoryJudge$SerialSearch" 47 ⟨"java/lang/Integer", "bitCount", "(I)I"⟩,
  .static ⟨"java/lang/Integer", "bitCount", "(I)I"⟩,
  .code ⟨"java/lang/Integer", "bitCount", "(I)I"⟩ prog_11_method_49_code 1 (some FieldType.int),
  .constant "java/lang/Integer" 265 (1431655765 : Int32),
  .constant "java/lang/Integer" 266 (858993459 : Int32),
  .constant "java/lang/Integer" 267 (252645135 : Int32),
  .methodLink "HistoryJudgeLaw" 94 ⟨"HistoryJudge", "beginnings", "()I"⟩,
  .instanceMethod ⟨"HistoryJudge", "beginnings", "()I"⟩,
  .selects "HistoryJudge" ⟨"HistoryJudge", "beginnings", "()I"⟩ ⟨"HistoryJudge", "beginnings", "()I"⟩,
  .code ⟨"HistoryJudge", "beginnings", "()I"⟩ prog_1_method_15_code 1 (some FieldType.int),
  .methodLink "HistoryJudge" 143 ⟨"java/lang/Integer", "bitCount", "(I)I"⟩,
  .methodLink "HistoryJudgeLaw" 98 ⟨"HistoryJudge", "clear", "()I"⟩,
  .instanceMethod ⟨"HistoryJudge", "clear", "()I"⟩,
  .selects "HistoryJudge" ⟨"HistoryJudge", "clear", "()I"⟩ ⟨"HistoryJudge", "clear", "()I"⟩,
  .code ⟨"HistoryJudge", "clear", "()I"⟩ prog_1_method_16_code 2 (some FieldType.int),
  .methodLink "HistoryJudge" 148 ⟨"HistoryJudge$History", "reset", "()V"⟩,
  .methodLink "HistoryJudgeLaw" 33 ⟨"HistoryJudgeLaw", "write", "(LHistoryJudge;II[J)I"⟩,
  .static ⟨"HistoryJudgeLaw", "write", "(LHistoryJudge;II[J)I"⟩,
  .classLink "HistoryJudgeLaw" 13 "java/lang/IllegalArgumentException",
  .classLink "HistoryJudgeLaw" 15 "java/lang/IllegalStateException",
  .classLink "HistoryJudgeLaw" 17 "java/lang/UnsupportedOperationException",
  .methodLink "HistoryJudgeLaw" 7 ⟨"HistoryJudge", "write", "(II)I"⟩]
def jW6 : List Cond := [
  .instanceMethod ⟨"HistoryJudge", "write", "(II)I"⟩,
  .selects "HistoryJudge" ⟨"HistoryJudge", "write", "(II)I"⟩ ⟨"HistoryJudge", "write", "(II)I"⟩,
  .code ⟨"HistoryJudge", "write", "(II)I"⟩ prog_1_method_2_code 3 (some FieldType.int),
  .classLink "HistoryJudge" 44 "java/lang/IllegalArgumentException",
  .instantiable "java/lang/IllegalArgumentException" 6,
  .selects "java/lang/IllegalArgumentException" ⟨"java/lang/Throwable", "fillInStackTrace", "(I)Ljava/lang/Throwable;"⟩ ⟨"java/lang/Throwable", "fillInStackTrace", "(I)Ljava/lang/Throwable;"⟩,
  .selects "java/lang/IllegalArgumentException" ⟨"java/lang/Throwable", "fillInStackTrace", "()Ljava/lang/Throwable;"⟩ ⟨"java/lang/Throwable", "fillInStackTrace", "()Ljava/lang/Throwable;"⟩,
  .lays "java/lang/IllegalArgumentException" "java/lang/Throwable" "cause" "Ljava/lang/Throwable;",
  .lays "java/lang/Throwable" "java/lang/Throwable" "cause" "Ljava/lang/Throwable;",
  .lays "java/lang/IllegalArgumentException" "java/lang/Throwable" "stackTrace" "[Ljava/lang/StackTraceElement;",
  .lays "java/lang/Throwable" "java/lang/Throwable" "stackTrace" "[Ljava/lang/StackTraceElement;",
  .lays "java/lang/IllegalArgumentException" "java/lang/Throwable" "suppressedExceptions" "Ljava/util/List;",
  .lays "java/lang/Throwable" "java/lang/Throwable" "suppressedExceptions" "Ljava/util/List;",
  .lays "java/lang/IllegalArgumentException" "java/lang/Throwable" "detailMessage" "Ljava/lang/String;",
  .lays "java/lang/Throwable" "java/lang/Throwable" "detailMessage" "Ljava/lang/String;",
  .lays "java/lang/IllegalArgumentException" "java/lang/Throwable" "backtrace" "Ljava/lang/Object;",
  .lays "java/lang/Throwable" "java/lang/Throwable" "backtrace" "Ljava/lang/Object;",
  .fieldLink "java/lang/Throwable" 198 "java/lang/Throwable" "backtrace" "Ljava/lang/Object;",
  .instanceMethod ⟨"java/lang/Throwable", "<init>", "()V"⟩,
  .code ⟨"java/lang/Throwable", "<init>", "()V"⟩ prog_13_method_1_code 1 none,
  .methodLink "java/lang/Throwable" 1 ⟨"java/lang/Object", "<init>", "()V"⟩,
  .fieldLink "java/lang/Throwable" 13 "java/lang/Throwable" "UNASSIGNED_STACK" "[Ljava/lang/StackTraceElement;",
  .fieldLink "java/lang/Throwable" 20 "java/lang/Throwable" "SUPPRESSED_SENTINEL" "Ljava/util/List;",
  .methodLink "java/lang/Throwable" 27 ⟨"java/lang/Throwable", "fillInStackTrace", "()Ljava/lang/Throwable;"⟩,
  .instanceMethod ⟨"java/lang/Throwable", "fillInStackTrace", "()Ljava/lang/Throwable;"⟩,
  .selects "java/lang/IllegalStateException" ⟨"java/lang/Throwable", "fillInStackTrace", "()Ljava/lang/Throwable;"⟩ ⟨"java/lang/Throwable", "fillInStackTrace", "()Ljava/lang/Throwable;"⟩,
  .selects "java/lang/UnsupportedOperationException" ⟨"java/lang/Throwable", "fillInStackTrace", "()Ljava/lang/Throwable;"⟩ ⟨"java/lang/Throwable", "fillInStackTrace", "()Ljava/lang/Throwable;"⟩,
  .selects "java/util/NoSuchElementException" ⟨"java/lang/Throwable", "fillInStackTrace", "()Ljava/lang/Throwable;"⟩ ⟨"java/lang/Throwable", "fillInStackTrace", "()Ljava/lang/Throwable;"⟩,
  .methodLink "java/lang/Throwable" 202 ⟨"java/lang/Throwable", "fillInStackTrace", "(I)Ljava/lang/Throwable;"⟩,
  .instanceMethod ⟨"java/lang/Throwable", "fillInStackTrace", "(I)Ljava/lang/Throwable;"⟩,
  .instantiable "java/lang/Throwable" 6,
  .methodLink "HistoryJudge" 46 ⟨"java/lang/IllegalArgumentException", "<init>", "()V"⟩,
  .instanceMethod ⟨"java/lang/IllegalArgumentException", "<init>", "()V"⟩,
  .code ⟨"java/lang/IllegalArgumentException", "<init>", "()V"⟩ prog_9_method_1_code 1 none,
  .methodLink "java/lang/IllegalArgumentException" 1 ⟨"java/lang/RuntimeException", "<init>", "()V"⟩,
  .instanceMethod ⟨"java/lang/RuntimeException", "<init>", "()V"⟩,
  .code ⟨"java/lang/RuntimeException", "<init>", "()V"⟩ prog_12_method_1_code 1 none,
  .methodLink "java/lang/RuntimeException" 1 ⟨"java/lang/Exception", "<init>", "()V"⟩,
  .instanceMethod ⟨"java/lang/Exception", "<init>", "()V"⟩,
  .code ⟨"java/lang/Exception", "<init>", "()V"⟩ prog_8_method_1_code 1 none,
  .methodLink "java/lang/Exception" 1 ⟨"java/lang/Throwable", "<init>", "()V"⟩,
  .fieldLink "java/lang/Throwable" 7 "java/lang/Throwable" "cause" "Ljava/lang/Throwable;",
  .fieldLink "java/lang/Throwable" 17 "java/lang/Throwable" "stackTrace" "[Ljava/lang/StackTraceElement;",
  .fieldLink "java/lang/Throwable" 24 "java/lang/Throwable" "suppressedExceptions" "Ljava/util/List;",
  .lays "java/lang/IllegalArgumentException" "java/lang/Throwable" "depth" "I",
  .methodLink "HistoryJudge" 47 ⟨"HistoryJudge$History", "hasEnded", "(I)Z"⟩,
  .instanceMethod ⟨"HistoryJudge$History", "hasEnded", "(I)Z"⟩,
  .selects "HistoryJudge$History" ⟨"HistoryJudge$History", "hasEnded", "(I)Z"⟩ ⟨"HistoryJudge$History", "hasEnded", "(I)Z"⟩,
  .code ⟨"HistoryJudge$History", "hasEnded", "(I)Z"⟩ prog_4_method_3_code 2 (some FieldType.boolean),
  .classLink "HistoryJudge" 50 "java/lang/IllegalStateException",
  .instantiable "java/lang/IllegalStateException" 6,
  .selects "java/lang/IllegalStateException" ⟨"java/lang/Throwable", "fillInStackTrace", "(I)Ljava/lang/Throwable;"⟩ ⟨"java/lang/Throwable", "fillInStackTrace", "(I)Ljava/lang/Throwable;"⟩,
  .lays "java/lang/IllegalStateException" "java/lang/Throwable" "cause" "Ljava/lang/Throwable;",
  .lays "java/lang/IllegalStateException" "java/lang/Throwable" "stackTrace" "[Ljava/lang/StackTraceElement;",
  .lays "java/lang/IllegalStateException" "java/lang/Throwable" "suppressedExceptions" "Ljava/util/List;",
  .lays "java/lang/IllegalStateException" "java/lang/Throwable" "detailMessage" "Ljava/lang/String;",
  .lays "java/lang/IllegalStateException" "java/lang/Throwable" "backtrace" "Ljava/lang/Object;",
  .methodLink "HistoryJudge" 52 ⟨"java/lang/IllegalStateException", "<init>", "()V"⟩,
  .instanceMethod ⟨"java/lang/IllegalStateException", "<init>", "()V"⟩,
  .code ⟨"java/lang/IllegalStateException", "<init>", "()V"⟩ prog_10_method_1_code 1 none]
def jW7 : List Cond := [
  .methodLink "java/lang/IllegalStateException" 1 ⟨"java/lang/RuntimeException", "<init>", "()V"⟩,
  .lays "java/lang/IllegalStateException" "java/lang/Throwable" "depth" "I",
  .classLink "HistoryJudge" 57 "java/lang/UnsupportedOperationException",
  .instantiable "java/lang/UnsupportedOperationException" 6,
  .selects "java/lang/UnsupportedOperationException" ⟨"java/lang/Throwable", "fillInStackTrace", "(I)Ljava/lang/Throwable;"⟩ ⟨"java/lang/Throwable", "fillInStackTrace", "(I)Ljava/lang/Throwable;"⟩,
  .lays "java/lang/UnsupportedOperationException" "java/lang/Throwable" "cause" "Ljava/lang/Throwable;",
  .lays "java/lang/UnsupportedOperationException" "java/lang/Throwable" "stackTrace" "[Ljava/lang/StackTraceElement;",
  .lays "java/lang/UnsupportedOperationException" "java/lang/Throwable" "suppressedExceptions" "Ljava/util/List;",
  .lays "java/lang/UnsupportedOperationException" "java/lang/Throwable" "detailMessage" "Ljava/lang/String;",
  .lays "java/lang/UnsupportedOperationException" "java/lang/Throwable" "backtrace" "Ljava/lang/Object;",
  .methodLink "HistoryJudge" 59 ⟨"java/lang/UnsupportedOperationException", "<init>", "()V"⟩,
  .instanceMethod ⟨"java/lang/UnsupportedOperationException", "<init>", "()V"⟩,
  .code ⟨"java/lang/UnsupportedOperationException", "<init>", "()V"⟩ prog_14_method_1_code 1 none,
  .methodLink "java/lang/UnsupportedOperationException" 1 ⟨"java/lang/RuntimeException", "<init>", "()V"⟩,
  .lays "java/lang/UnsupportedOperationException" "java/lang/Throwable" "depth" "I",
  .methodLink "HistoryJudge" 60 ⟨"HistoryJudge$History", "addVersion", "(II)I"⟩,
  .instanceMethod ⟨"HistoryJudge$History", "addVersion", "(II)I"⟩,
  .selects "HistoryJudge$History" ⟨"HistoryJudge$History", "addVersion", "(II)I"⟩ ⟨"HistoryJudge$History", "addVersion", "(II)I"⟩,
  .code ⟨"HistoryJudge$History", "addVersion", "(II)I"⟩ prog_4_method_6_code 4 (some FieldType.int),
  .methodLink "HistoryJudgeLaw" 43 ⟨"HistoryJudgeLaw", "read", "(LHistoryJudge;III[J)I"⟩,
  .static ⟨"HistoryJudgeLaw", "read", "(LHistoryJudge;III[J)I"⟩,
  .classLink "HistoryJudgeLaw" 23 "java/util/NoSuchElementException",
  .methodLink "HistoryJudgeLaw" 19 ⟨"HistoryJudge", "read", "(III)I"⟩,
  .instanceMethod ⟨"HistoryJudge", "read", "(III)I"⟩,
  .selects "HistoryJudge" ⟨"HistoryJudge", "read", "(III)I"⟩ ⟨"HistoryJudge", "read", "(III)I"⟩,
  .code ⟨"HistoryJudge", "read", "(III)I"⟩ prog_1_method_3_code 4 (some FieldType.int),
  .methodLink "HistoryJudge" 64 ⟨"HistoryJudge$History", "hasVersion", "(II)Z"⟩,
  .instanceMethod ⟨"HistoryJudge$History", "hasVersion", "(II)Z"⟩,
  .selects "HistoryJudge$History" ⟨"HistoryJudge$History", "hasVersion", "(II)Z"⟩ ⟨"HistoryJudge$History", "hasVersion", "(II)Z"⟩,
  .code ⟨"HistoryJudge$History", "hasVersion", "(II)Z"⟩ prog_4_method_5_code 3 (some FieldType.boolean),
  .classLink "HistoryJudge" 68 "java/util/NoSuchElementException",
  .instantiable "java/util/NoSuchElementException" 6,
  .selects "java/util/NoSuchElementException" ⟨"java/lang/Throwable", "fillInStackTrace", "(I)Ljava/lang/Throwable;"⟩ ⟨"java/lang/Throwable", "fillInStackTrace", "(I)Ljava/lang/Throwable;"⟩,
  .lays "java/util/NoSuchElementException" "java/lang/Throwable" "cause" "Ljava/lang/Throwable;",
  .lays "java/util/NoSuchElementException" "java/lang/Throwable" "stackTrace" "[Ljava/lang/StackTraceElement;",
  .lays "java/util/NoSuchElementException" "java/lang/Throwable" "suppressedExceptions" "Ljava/util/List;",
  .lays "java/util/NoSuchElementException" "java/lang/Throwable" "detailMessage" "Ljava/lang/String;",
  .lays "java/util/NoSuchElementException" "java/lang/Throwable" "backtrace" "Ljava/lang/Object;",
  .methodLink "HistoryJudge" 70 ⟨"java/util/NoSuchElementException", "<init>", "()V"⟩,
  .instanceMethod ⟨"java/util/NoSuchElementException", "<init>", "()V"⟩,
  .code ⟨"java/util/NoSuchElementException", "<init>", "()V"⟩ prog_16_method_1_code 1 none,
  .methodLink "java/util/NoSuchElementException" 1 ⟨"java/lang/RuntimeException", "<init>", "()V"⟩,
  .lays "java/util/NoSuchElementException" "java/lang/Throwable" "depth" "I",
  .methodLink "HistoryJudge" 74 ⟨"HistoryJudge$History", "addRead", "(III)I"⟩,
  .instanceMethod ⟨"HistoryJudge$History", "addRead", "(III)I"⟩,
  .selects "HistoryJudge$History" ⟨"HistoryJudge$History", "addRead", "(III)I"⟩ ⟨"HistoryJudge$History", "addRead", "(III)I"⟩,
  .code ⟨"HistoryJudge$History", "addRead", "(III)I"⟩ prog_4_method_7_code 4 (some FieldType.int),
  .methodLink "HistoryJudgeLaw" 47 ⟨"HistoryJudgeLaw", "end", "(LHistoryJudge;IZ)I"⟩,
  .static ⟨"HistoryJudgeLaw", "end", "(LHistoryJudge;IZ)I"⟩,
  .methodLink "HistoryJudgeLaw" 25 ⟨"HistoryJudge", "end", "(IZ)V"⟩,
  .instanceMethod ⟨"HistoryJudge", "end", "(IZ)V"⟩,
  .selects "HistoryJudge" ⟨"HistoryJudge", "end", "(IZ)V"⟩ ⟨"HistoryJudge", "end", "(IZ)V"⟩,
  .code ⟨"HistoryJudge", "end", "(IZ)V"⟩ prog_1_method_4_code 3 none,
  .methodLink "HistoryJudge" 82 ⟨"HistoryJudge$History", "commit", "(I)V"⟩,
  .instanceMethod ⟨"HistoryJudge$History", "commit", "(I)V"⟩,
  .selects "HistoryJudge$History" ⟨"HistoryJudge$History", "commit", "(I)V"⟩ ⟨"HistoryJudge$History", "commit", "(I)V"⟩,
  .code ⟨"HistoryJudge$History", "commit", "(I)V"⟩ prog_4_method_8_code 3 none,
  .classLink "HistoryJudgeLaw" 30 "HistoryJudgeModel",
  .instantiable "HistoryJudgeModel" 18,
  .methodLink "HistoryJudgeLaw" 32 ⟨"HistoryJudgeModel", "<init>", "()V"⟩]
def jW8 : List Cond := [
  .instanceMethod ⟨"HistoryJudgeModel", "<init>", "()V"⟩,
  .code ⟨"HistoryJudgeModel", "<init>", "()V"⟩ prog_7_method_1_code 1 none,
  .methodLink "HistoryJudgeModel" 1 ⟨"java/lang/Object", "<init>", "()V"⟩,
  .fieldLink "HistoryJudgeModel" 50 "HistoryJudgeModel" "code" "I",
  .fieldLink "HistoryJudgeModel" 7 "HistoryJudgeModel" "states" "[I",
  .fieldLink "HistoryJudgeModel" 64 "HistoryJudgeModel" "versions" "I",
  .fieldLink "HistoryJudgeModel" 13 "HistoryJudgeModel" "writer" "[I",
  .fieldLink "HistoryJudgeModel" 16 "HistoryJudgeModel" "itemOf" "[I",
  .fieldLink "HistoryJudgeModel" 75 "HistoryJudgeModel" "reads" "I",
  .fieldLink "HistoryJudgeModel" 54 "HistoryJudgeModel" "events" "I",
  .fieldLink "HistoryJudgeModel" 19 "HistoryJudgeModel" "who" "[I",
  .fieldLink "HistoryJudgeModel" 22 "HistoryJudgeModel" "what" "[I",
  .fieldLink "HistoryJudgeModel" 25 "HistoryJudgeModel" "which" "[I",
  .fieldLink "HistoryJudgeModel" 28 "HistoryJudgeModel" "writes" "[Z",
  .fieldLink "HistoryJudgeModel" 32 "HistoryJudgeModel" "lengths" "[I",
  .fieldLink "HistoryJudgeModel" 35 "HistoryJudgeModel" "order" "[I",
  .fieldLink "HistoryJudgeModel" 38 "HistoryJudgeModel" "drawn" "[I",
  .fieldLink "HistoryJudgeModel" 41 "HistoryJudgeModel" "row" "[I",
  .fieldLink "HistoryJudgeModel" 44 "HistoryJudgeModel" "tries" "[I",
  .fieldLink "HistoryJudgeModel" 133 "HistoryJudgeModel" "size" "I",
  .fieldLink "HistoryJudgeModel" 47 "HistoryJudgeModel" "latest" "[I",
  .lays "HistoryJudgeModel" "HistoryJudgeModel" "code" "I",
  .laysFinal "HistoryJudgeModel" "HistoryJudgeModel" "states" "[I",
  .lays "HistoryJudgeModel" "HistoryJudgeModel" "versions" "I",
  .laysFinal "HistoryJudgeModel" "HistoryJudgeModel" "writer" "[I",
  .laysFinal "HistoryJudgeModel" "HistoryJudgeModel" "itemOf" "[I",
  .lays "HistoryJudgeModel" "HistoryJudgeModel" "reads" "I",
  .lays "HistoryJudgeModel" "HistoryJudgeModel" "events" "I",
  .laysFinal "HistoryJudgeModel" "HistoryJudgeModel" "who" "[I",
  .laysFinal "HistoryJudgeModel" "HistoryJudgeModel" "what" "[I",
  .laysFinal "HistoryJudgeModel" "HistoryJudgeModel" "which" "[I",
  .laysFinal "HistoryJudgeModel" "HistoryJudgeModel" "writes" "[Z",
  .laysFinal "HistoryJudgeModel" "HistoryJudgeModel" "lengths" "[I",
  .laysFinal "HistoryJudgeModel" "HistoryJudgeModel" "order" "[I",
  .laysFinal "HistoryJudgeModel" "HistoryJudgeModel" "drawn" "[I",
  .laysFinal "HistoryJudgeModel" "HistoryJudgeModel" "row" "[I",
  .laysFinal "HistoryJudgeModel" "HistoryJudgeModel" "tries" "[I",
  .lays "HistoryJudgeModel" "HistoryJudgeModel" "size" "I",
  .laysFinal "HistoryJudgeModel" "HistoryJudgeModel" "latest" "[I",
  .arrayClass FieldType.boolean,
  .methodLink "HistoryJudgeLaw" 39 ⟨"HistoryJudgeModel", "thrown", "()I"⟩,
  .instanceMethod ⟨"HistoryJudgeModel", "thrown", "()I"⟩,
  .selects "HistoryJudgeModel" ⟨"HistoryJudgeModel", "thrown", "()I"⟩ ⟨"HistoryJudgeModel", "thrown", "()I"⟩,
  .code ⟨"HistoryJudgeModel", "thrown", "()I"⟩ prog_7_method_2_code 1 (some FieldType.int),
  .methodLink "HistoryJudgeLaw" 38 ⟨"HistoryJudgeModel", "write", "(II)I"⟩,
  .instanceMethod ⟨"HistoryJudgeModel", "write", "(II)I"⟩,
  .selects "HistoryJudgeModel" ⟨"HistoryJudgeModel", "write", "(II)I"⟩ ⟨"HistoryJudgeModel", "write", "(II)I"⟩,
  .code ⟨"HistoryJudgeModel", "write", "(II)I"⟩ prog_7_method_6_code 3 (some FieldType.int),
  .methodLink "HistoryJudgeModel" 57 ⟨"HistoryJudgeModel", "isOne", "(I)Z"⟩,
  .static ⟨"HistoryJudgeModel", "isOne", "(I)Z"⟩,
  .code ⟨"HistoryJudgeModel", "isOne", "(I)Z"⟩ prog_7_method_4_code 1 (some FieldType.boolean),
  .methodLink "HistoryJudgeModel" 61 ⟨"HistoryJudgeModel", "isItem", "(I)Z"⟩,
  .static ⟨"HistoryJudgeModel", "isItem", "(I)Z"⟩,
  .code ⟨"HistoryJudgeModel", "isItem", "(I)Z"⟩ prog_7_method_3_code 1 (some FieldType.boolean),
  .methodLink "HistoryJudgeModel" 67 ⟨"HistoryJudgeModel", "note", "(IIIZ)V"⟩,
  .instanceMethod ⟨"HistoryJudgeModel", "note", "(IIIZ)V"⟩,
  .code ⟨"HistoryJudgeModel", "note", "(IIIZ)V"⟩ prog_7_method_5_code 5 none,
  .methodLink "HistoryJudgeLaw" 46 ⟨"HistoryJudgeModel", "read", "(III)I"⟩,
  .instanceMethod ⟨"HistoryJudgeModel", "read", "(III)I"⟩,
  .selects "HistoryJudgeModel" ⟨"HistoryJudgeModel", "read", "(III)I"⟩ ⟨"HistoryJudgeModel", "read", "(III)I"⟩]
def jW9 : List Cond := [
  .code ⟨"HistoryJudgeModel", "read", "(III)I"⟩ prog_7_method_8_code 4 (some FieldType.int),
  .methodLink "HistoryJudgeModel" 71 ⟨"HistoryJudgeModel", "isVersion", "(II)Z"⟩,
  .instanceMethod ⟨"HistoryJudgeModel", "isVersion", "(II)Z"⟩,
  .code ⟨"HistoryJudgeModel", "isVersion", "(II)Z"⟩ prog_7_method_7_code 3 (some FieldType.boolean),
  .methodLink "HistoryJudgeLaw" 50 ⟨"HistoryJudgeModel", "end", "(IZ)V"⟩,
  .instanceMethod ⟨"HistoryJudgeModel", "end", "(IZ)V"⟩,
  .selects "HistoryJudgeModel" ⟨"HistoryJudgeModel", "end", "(IZ)V"⟩ ⟨"HistoryJudgeModel", "end", "(IZ)V"⟩,
  .code ⟨"HistoryJudgeModel", "end", "(IZ)V"⟩ prog_7_method_10_code 5 none,
  .methodLink "HistoryJudgeModel" 78 ⟨"HistoryJudgeModel", "isFinal", "(I)Z"⟩,
  .instanceMethod ⟨"HistoryJudgeModel", "isFinal", "(I)Z"⟩,
  .code ⟨"HistoryJudgeModel", "isFinal", "(I)Z"⟩ prog_7_method_9_code 4 (some FieldType.boolean),
  .methodLink "HistoryJudgeLaw" 55 ⟨"HistoryJudgeModel", "state", "(I)I"⟩,
  .instanceMethod ⟨"HistoryJudgeModel", "state", "(I)I"⟩,
  .selects "HistoryJudgeModel" ⟨"HistoryJudgeModel", "state", "(I)I"⟩ ⟨"HistoryJudgeModel", "state", "(I)I"⟩,
  .code ⟨"HistoryJudgeModel", "state", "(I)I"⟩ prog_7_method_11_code 2 (some FieldType.int),
  .methodLink "HistoryJudgeLaw" 59 ⟨"HistoryJudgeModel", "version", "(II)I"⟩,
  .instanceMethod ⟨"HistoryJudgeModel", "version", "(II)I"⟩,
  .selects "HistoryJudgeModel" ⟨"HistoryJudgeModel", "version", "(II)I"⟩ ⟨"HistoryJudgeModel", "version", "(II)I"⟩,
  .code ⟨"HistoryJudgeModel", "version", "(II)I"⟩ prog_7_method_12_code 3 (some FieldType.int),
  .methodLink "HistoryJudgeLaw" 64 ⟨"HistoryJudgeModel", "exchange", "(II)Z"⟩,
  .instanceMethod ⟨"HistoryJudgeModel", "exchange", "(II)Z"⟩,
  .selects "HistoryJudgeModel" ⟨"HistoryJudgeModel", "exchange", "(II)Z"⟩ ⟨"HistoryJudgeModel", "exchange", "(II)Z"⟩,
  .code ⟨"HistoryJudgeModel", "exchange", "(II)Z"⟩ prog_7_method_13_code 4 (some FieldType.boolean),
  .methodLink "HistoryJudgeLaw" 101 ⟨"HistoryJudgeModel", "clear", "()I"⟩,
  .instanceMethod ⟨"HistoryJudgeModel", "clear", "()I"⟩,
  .selects "HistoryJudgeModel" ⟨"HistoryJudgeModel", "clear", "()I"⟩ ⟨"HistoryJudgeModel", "clear", "()I"⟩,
  .code ⟨"HistoryJudgeModel", "clear", "()I"⟩ prog_7_method_14_code 3 (some FieldType.int),
  .methodLink "HistoryJudgeLaw" 68 ⟨"HistoryJudgeModel", "edges", "(II)I"⟩,
  .instanceMethod ⟨"HistoryJudgeModel", "edges", "(II)I"⟩,
  .selects "HistoryJudgeModel" ⟨"HistoryJudgeModel", "edges", "(II)I"⟩ ⟨"HistoryJudgeModel", "edges", "(II)I"⟩,
  .code ⟨"HistoryJudgeModel", "edges", "(II)I"⟩ prog_7_method_21_code 3 (some FieldType.int),
  .methodLink "HistoryJudgeModel" 97 ⟨"HistoryJudgeModel", "edge", "(II)I"⟩,
  .instanceMethod ⟨"HistoryJudgeModel", "edge", "(II)I"⟩,
  .code ⟨"HistoryJudgeModel", "edge", "(II)I"⟩ prog_7_method_20_code 3 (some FieldType.int),
  .methodLink "HistoryJudgeModel" 85 ⟨"HistoryJudgeModel", "isCommitted", "(I)Z"⟩,
  .instanceMethod ⟨"HistoryJudgeModel", "isCommitted", "(I)Z"⟩,
  .code ⟨"HistoryJudgeModel", "isCommitted", "(I)Z"⟩ prog_7_method_15_code 2 (some FieldType.boolean),
  .methodLink "HistoryJudgeModel" 88 ⟨"HistoryJudgeModel", "follows", "(II)Z"⟩,
  .instanceMethod ⟨"HistoryJudgeModel", "follows", "(II)Z"⟩,
  .code ⟨"HistoryJudgeModel", "follows", "(II)Z"⟩ prog_7_method_17_code 6 (some FieldType.boolean),
  .methodLink "HistoryJudgeModel" 81 ⟨"HistoryJudgeModel", "nextOf", "(II)I"⟩,
  .instanceMethod ⟨"HistoryJudgeModel", "nextOf", "(II)I"⟩,
  .code ⟨"HistoryJudgeModel", "nextOf", "(II)I"⟩ prog_7_method_16_code 5 (some FieldType.int),
  .methodLink "HistoryJudgeModel" 91 ⟨"HistoryJudgeModel", "hasRead", "(II)Z"⟩,
  .instanceMethod ⟨"HistoryJudgeModel", "hasRead", "(II)Z"⟩,
  .code ⟨"HistoryJudgeModel", "hasRead", "(II)Z"⟩ prog_7_method_18_code 5 (some FieldType.boolean),
  .methodLink "HistoryJudgeModel" 94 ⟨"HistoryJudgeModel", "overtaken", "(II)Z"⟩,
  .instanceMethod ⟨"HistoryJudgeModel", "overtaken", "(II)Z"⟩,
  .code ⟨"HistoryJudgeModel", "overtaken", "(II)Z"⟩ prog_7_method_19_code 6 (some FieldType.boolean),
  .methodLink "HistoryJudgeLaw" 80 ⟨"HistoryJudgeModel", "cycle", "(I)I"⟩,
  .instanceMethod ⟨"HistoryJudgeModel", "cycle", "(I)I"⟩,
  .selects "HistoryJudgeModel" ⟨"HistoryJudgeModel", "cycle", "(I)I"⟩ ⟨"HistoryJudgeModel", "cycle", "(I)I"⟩,
  .code ⟨"HistoryJudgeModel", "cycle", "(I)I"⟩ prog_7_method_29_code 2 (some FieldType.int),
  .methodLink "HistoryJudgeModel" 120 ⟨"HistoryJudgeModel", "findCycle", "(I)I"⟩,
  .instanceMethod ⟨"HistoryJudgeModel", "findCycle", "(I)I"⟩,
  .code ⟨"HistoryJudgeModel", "findCycle", "(I)I"⟩ prog_7_method_28_code 3 (some FieldType.int),
  .methodLink "HistoryJudgeModel" 114 ⟨"HistoryJudgeModel", "draw", "()V"⟩,
  .instanceMethod ⟨"HistoryJudgeModel", "draw", "()V"⟩,
  .code ⟨"HistoryJudgeModel", "draw", "()V"⟩ prog_7_method_22_code 3 none,
  .methodLink "HistoryJudgeModel" 117 ⟨"HistoryJudgeModel", "tryRows", "(II)Z"⟩]
def jW10 : List Cond := [
  .instanceMethod ⟨"HistoryJudgeModel", "tryRows", "(II)Z"⟩,
  .code ⟨"HistoryJudgeModel", "tryRows", "(II)Z"⟩ prog_7_method_27_code 5 (some FieldType.boolean),
  .methodLink "HistoryJudgeModel" 107 ⟨"HistoryJudgeModel", "fits", "(III)Z"⟩,
  .instanceMethod ⟨"HistoryJudgeModel", "fits", "(III)Z"⟩,
  .code ⟨"HistoryJudgeModel", "fits", "(III)Z"⟩ prog_7_method_26_code 4 (some FieldType.boolean),
  .methodLink "HistoryJudgeModel" 104 ⟨"HistoryJudgeModel", "inRow", "(II)Z"⟩,
  .instanceMethod ⟨"HistoryJudgeModel", "inRow", "(II)Z"⟩,
  .code ⟨"HistoryJudgeModel", "inRow", "(II)Z"⟩ prog_7_method_24_code 5 (some FieldType.boolean),
  .methodLink "HistoryJudgeModel" 100 ⟨"HistoryJudgeModel", "mask", "(I)I"⟩,
  .static ⟨"HistoryJudgeModel", "mask", "(I)I"⟩,
  .code ⟨"HistoryJudgeModel", "mask", "(I)I"⟩ prog_7_method_23_code 1 (some FieldType.int),
  .methodLink "HistoryJudgeModel" 111 ⟨"HistoryJudgeModel", "closes", "(II)Z"⟩,
  .instanceMethod ⟨"HistoryJudgeModel", "closes", "(II)Z"⟩,
  .code ⟨"HistoryJudgeModel", "closes", "(II)Z"⟩ prog_7_method_25_code 7 (some FieldType.boolean),
  .methodLink "HistoryJudgeLaw" 84 ⟨"HistoryJudgeModel", "step", "(II)I"⟩,
  .instanceMethod ⟨"HistoryJudgeModel", "step", "(II)I"⟩,
  .selects "HistoryJudgeModel" ⟨"HistoryJudgeModel", "step", "(II)I"⟩ ⟨"HistoryJudgeModel", "step", "(II)I"⟩,
  .code ⟨"HistoryJudgeModel", "step", "(II)I"⟩ prog_7_method_30_code 4 (some FieldType.int),
  .methodLink "HistoryJudgeLaw" 72 ⟨"HistoryJudgeModel", "flaws", "()I"⟩,
  .instanceMethod ⟨"HistoryJudgeModel", "flaws", "()I"⟩,
  .selects "HistoryJudgeModel" ⟨"HistoryJudgeModel", "flaws", "()I"⟩ ⟨"HistoryJudgeModel", "flaws", "()I"⟩,
  .code ⟨"HistoryJudgeModel", "flaws", "()I"⟩ prog_7_method_33_code 1 (some FieldType.int),
  .methodLink "HistoryJudgeModel" 127 ⟨"HistoryJudgeModel", "allFlaws", "()I"⟩,
  .instanceMethod ⟨"HistoryJudgeModel", "allFlaws", "()I"⟩,
  .code ⟨"HistoryJudgeModel", "allFlaws", "()I"⟩ prog_7_method_32_code 5 (some FieldType.int),
  .methodLink "HistoryJudgeModel" 123 ⟨"HistoryJudgeModel", "readFlaws", "()I"⟩,
  .instanceMethod ⟨"HistoryJudgeModel", "readFlaws", "()I"⟩,
  .code ⟨"HistoryJudgeModel", "readFlaws", "()I"⟩ prog_7_method_31_code 7 (some FieldType.int),
  .methodLink "HistoryJudgeLaw" 76 ⟨"HistoryJudgeModel", "level", "()I"⟩,
  .instanceMethod ⟨"HistoryJudgeModel", "level", "()I"⟩,
  .selects "HistoryJudgeModel" ⟨"HistoryJudgeModel", "level", "()I"⟩ ⟨"HistoryJudgeModel", "level", "()I"⟩,
  .code ⟨"HistoryJudgeModel", "level", "()I"⟩ prog_7_method_34_code 2 (some FieldType.int),
  .methodLink "HistoryJudgeLaw" 89 ⟨"HistoryJudgeModel", "serial", "()Z"⟩,
  .instanceMethod ⟨"HistoryJudgeModel", "serial", "()Z"⟩,
  .selects "HistoryJudgeModel" ⟨"HistoryJudgeModel", "serial", "()Z"⟩ ⟨"HistoryJudgeModel", "serial", "()Z"⟩,
  .code ⟨"HistoryJudgeModel", "serial", "()Z"⟩ prog_7_method_38_code 1 (some FieldType.boolean),
  .methodLink "HistoryJudgeModel" 139 ⟨"HistoryJudgeModel", "tryOrders", "(II)Z"⟩,
  .instanceMethod ⟨"HistoryJudgeModel", "tryOrders", "(II)Z"⟩,
  .code ⟨"HistoryJudgeModel", "tryOrders", "(II)Z"⟩ prog_7_method_37_code 5 (some FieldType.boolean),
  .methodLink "HistoryJudgeModel" 130 ⟨"HistoryJudgeModel", "committed", "()I"⟩,
  .instanceMethod ⟨"HistoryJudgeModel", "committed", "()I"⟩,
  .code ⟨"HistoryJudgeModel", "committed", "()I"⟩ prog_7_method_35_code 3 (some FieldType.int),
  .methodLink "HistoryJudgeModel" 136 ⟨"HistoryJudgeModel", "runs", "(II)Z"⟩,
  .instanceMethod ⟨"HistoryJudgeModel", "runs", "(II)Z"⟩,
  .code ⟨"HistoryJudgeModel", "runs", "(II)Z"⟩ prog_7_method_36_code 5 (some FieldType.boolean),
  .methodLink "HistoryJudgeLaw" 93 ⟨"HistoryJudgeModel", "place", "(I)I"⟩,
  .instanceMethod ⟨"HistoryJudgeModel", "place", "(I)I"⟩,
  .selects "HistoryJudgeModel" ⟨"HistoryJudgeModel", "place", "(I)I"⟩ ⟨"HistoryJudgeModel", "place", "(I)I"⟩,
  .code ⟨"HistoryJudgeModel", "place", "(I)I"⟩ prog_7_method_39_code 3 (some FieldType.int),
  .methodLink "HistoryJudgeLaw" 97 ⟨"HistoryJudgeModel", "beginnings", "()I"⟩,
  .instanceMethod ⟨"HistoryJudgeModel", "beginnings", "()I"⟩,
  .selects "HistoryJudgeModel" ⟨"HistoryJudgeModel", "beginnings", "()I"⟩ ⟨"HistoryJudgeModel", "beginnings", "()I"⟩,
  .code ⟨"HistoryJudgeModel", "beginnings", "()I"⟩ prog_7_method_40_code 3 (some FieldType.int),
  .arrayClass FieldType.long]
def jW : List Cond := jW0 ++ (jW1 ++ (jW2 ++ (jW3 ++ (jW4 ++ (jW5 ++ (jW6 ++ (jW7 ++ (jW8 ++ (jW9 ++ (jW10))))))))))
theorem jW_all : jW.all goodWord = true := by decide +kernel
theorem jW_good : ∀ w ∈ jW, ((w.onTables && w.keeps) = true ∨ ∃ ty, w = .arrayClass ty) := fun w h => good_of_word (List.all_eq_true.mp jW_all w h)
theorem wl0 : (Cond.selects "HistoryJudge$Graph" ⟨"HistoryJudge$Graph", "drawOrder", "(LHistoryJudge$History;I)V"⟩ ⟨"HistoryJudge$Graph", "drawOrder", "(LHistoryJudge$History;I)V"⟩) ∈ jW := List.mem_of_getElem? (i := 0) (by decide +kernel)
theorem wl1 : (Cond.selects "HistoryJudge$Graph" ⟨"HistoryJudge$Graph", "drawRead", "(LHistoryJudge$History;I)V"⟩ ⟨"HistoryJudge$Graph", "drawRead", "(LHistoryJudge$History;I)V"⟩) ∈ jW := List.mem_of_getElem? (i := 1) (by decide +kernel)
theorem wl2 : (Cond.selects "HistoryJudge$History" ⟨"HistoryJudge$History", "placeBehind", "(II)I"⟩ ⟨"HistoryJudge$History", "placeBehind", "(II)I"⟩) ∈ jW := List.mem_of_getElem? (i := 2) (by decide +kernel)
theorem wl3 : (Cond.selects "HistoryJudge$CycleSearch" ⟨"HistoryJudge$CycleSearch", "sortEdges", "(LHistoryJudge$Graph;I)V"⟩ ⟨"HistoryJudge$CycleSearch", "sortEdges", "(LHistoryJudge$Graph;I)V"⟩) ∈ jW := List.mem_of_getElem? (i := 3) (by decide +kernel)
theorem wl4 : (Cond.selects "HistoryJudge$CycleSearch" ⟨"HistoryJudge$CycleSearch", "measure", "(I)V"⟩ ⟨"HistoryJudge$CycleSearch", "measure", "(I)V"⟩) ∈ jW := List.mem_of_getElem? (i := 4) (by decide +kernel)
theorem wl5 : (Cond.selects "HistoryJudge$CycleSearch" ⟨"HistoryJudge$CycleSearch", "trace", "(IIZ)V"⟩ ⟨"HistoryJudge$CycleSearch", "trace", "(IIZ)V"⟩) ∈ jW := List.mem_of_getElem? (i := 5) (by decide +kernel)
theorem wl6 : (Cond.selects "HistoryJudge$History" ⟨"HistoryJudge$History", "isJudgedRead", "(I)Z"⟩ ⟨"HistoryJudge$History", "isJudgedRead", "(I)Z"⟩) ∈ jW := List.mem_of_getElem? (i := 6) (by decide +kernel)
theorem wl7 : (Cond.selects "HistoryJudge$History" ⟨"HistoryJudge$History", "isOfAnotherCommitted", "(I)Z"⟩ ⟨"HistoryJudge$History", "isOfAnotherCommitted", "(I)Z"⟩) ∈ jW := List.mem_of_getElem? (i := 7) (by decide +kernel)
theorem wl8 : (Cond.selects "HistoryJudge$SerialSearch" ⟨"HistoryJudge$SerialSearch", "takeReads", "(LHistoryJudge$History;)V"⟩ ⟨"HistoryJudge$SerialSearch", "takeReads", "(LHistoryJudge$History;)V"⟩) ∈ jW := List.mem_of_getElem? (i := 8) (by decide +kernel)
theorem wl9 : (Cond.selects "HistoryJudge$SerialSearch" ⟨"HistoryJudge$SerialSearch", "takeRead", "(LHistoryJudge$History;I)V"⟩ ⟨"HistoryJudge$SerialSearch", "takeRead", "(LHistoryJudge$History;I)V"⟩) ∈ jW := List.mem_of_getElem? (i := 9) (by decide +kernel)
theorem wl10 : (Cond.selects "HistoryJudge$SerialSearch" ⟨"HistoryJudge$SerialSearch", "takeFirstRead", "(LHistoryJudge$History;II)V"⟩ ⟨"HistoryJudge$SerialSearch", "takeFirstRead", "(LHistoryJudge$History;II)V"⟩) ∈ jW := List.mem_of_getElem? (i := 10) (by decide +kernel)
theorem wl11 : (Cond.selects "HistoryJudge$SerialSearch" ⟨"HistoryJudge$SerialSearch", "takeForeignRead", "(LHistoryJudge$History;II)V"⟩ ⟨"HistoryJudge$SerialSearch", "takeForeignRead", "(LHistoryJudge$History;II)V"⟩) ∈ jW := List.mem_of_getElem? (i := 11) (by decide +kernel)
theorem wl12 : (Cond.selects "HistoryJudge$SerialSearch" ⟨"HistoryJudge$SerialSearch", "followers", "(I)I"⟩ ⟨"HistoryJudge$SerialSearch", "followers", "(I)I"⟩) ∈ jW := List.mem_of_getElem? (i := 12) (by decide +kernel)
theorem wl13 : (Cond.selects "HistoryJudge$SerialSearch" ⟨"HistoryJudge$SerialSearch", "mayFollow", "(II)Z"⟩ ⟨"HistoryJudge$SerialSearch", "mayFollow", "(II)Z"⟩) ∈ jW := List.mem_of_getElem? (i := 13) (by decide +kernel)
theorem wl14 : (Cond.selects "HistoryJudge$SerialSearch" ⟨"HistoryJudge$SerialSearch", "canBeEnded", "(I)Z"⟩ ⟨"HistoryJudge$SerialSearch", "canBeEnded", "(I)Z"⟩) ∈ jW := List.mem_of_getElem? (i := 14) (by decide +kernel)
theorem wl15 : (Cond.selects "HistoryJudgeModel" ⟨"HistoryJudgeModel", "note", "(IIIZ)V"⟩ ⟨"HistoryJudgeModel", "note", "(IIIZ)V"⟩) ∈ jW := List.mem_of_getElem? (i := 15) (by decide +kernel)
theorem wl16 : (Cond.selects "HistoryJudgeModel" ⟨"HistoryJudgeModel", "isVersion", "(II)Z"⟩ ⟨"HistoryJudgeModel", "isVersion", "(II)Z"⟩) ∈ jW := List.mem_of_getElem? (i := 16) (by decide +kernel)
theorem wl17 : (Cond.selects "HistoryJudgeModel" ⟨"HistoryJudgeModel", "isFinal", "(I)Z"⟩ ⟨"HistoryJudgeModel", "isFinal", "(I)Z"⟩) ∈ jW := List.mem_of_getElem? (i := 17) (by decide +kernel)
theorem wl18 : (Cond.selects "HistoryJudgeModel" ⟨"HistoryJudgeModel", "edge", "(II)I"⟩ ⟨"HistoryJudgeModel", "edge", "(II)I"⟩) ∈ jW := List.mem_of_getElem? (i := 18) (by decide +kernel)
theorem wl19 : (Cond.selects "HistoryJudgeModel" ⟨"HistoryJudgeModel", "isCommitted", "(I)Z"⟩ ⟨"HistoryJudgeModel", "isCommitted", "(I)Z"⟩) ∈ jW := List.mem_of_getElem? (i := 19) (by decide +kernel)
theorem wl20 : (Cond.selects "HistoryJudgeModel" ⟨"HistoryJudgeModel", "follows", "(II)Z"⟩ ⟨"HistoryJudgeModel", "follows", "(II)Z"⟩) ∈ jW := List.mem_of_getElem? (i := 20) (by decide +kernel)
theorem wl21 : (Cond.selects "HistoryJudgeModel" ⟨"HistoryJudgeModel", "nextOf", "(II)I"⟩ ⟨"HistoryJudgeModel", "nextOf", "(II)I"⟩) ∈ jW := List.mem_of_getElem? (i := 21) (by decide +kernel)
theorem wl22 : (Cond.selects "HistoryJudgeModel" ⟨"HistoryJudgeModel", "hasRead", "(II)Z"⟩ ⟨"HistoryJudgeModel", "hasRead", "(II)Z"⟩) ∈ jW := List.mem_of_getElem? (i := 22) (by decide +kernel)
theorem wl23 : (Cond.selects "HistoryJudgeModel" ⟨"HistoryJudgeModel", "overtaken", "(II)Z"⟩ ⟨"HistoryJudgeModel", "overtaken", "(II)Z"⟩) ∈ jW := List.mem_of_getElem? (i := 23) (by decide +kernel)
theorem wl24 : (Cond.selects "HistoryJudgeModel" ⟨"HistoryJudgeModel", "findCycle", "(I)I"⟩ ⟨"HistoryJudgeModel", "findCycle", "(I)I"⟩) ∈ jW := List.mem_of_getElem? (i := 24) (by decide +kernel)
theorem wl25 : (Cond.selects "HistoryJudgeModel" ⟨"HistoryJudgeModel", "draw", "()V"⟩ ⟨"HistoryJudgeModel", "draw", "()V"⟩) ∈ jW := List.mem_of_getElem? (i := 25) (by decide +kernel)
theorem wl26 : (Cond.selects "HistoryJudgeModel" ⟨"HistoryJudgeModel", "tryRows", "(II)Z"⟩ ⟨"HistoryJudgeModel", "tryRows", "(II)Z"⟩) ∈ jW := List.mem_of_getElem? (i := 26) (by decide +kernel)
theorem wl27 : (Cond.selects "HistoryJudgeModel" ⟨"HistoryJudgeModel", "fits", "(III)Z"⟩ ⟨"HistoryJudgeModel", "fits", "(III)Z"⟩) ∈ jW := List.mem_of_getElem? (i := 27) (by decide +kernel)
theorem wl28 : (Cond.selects "HistoryJudgeModel" ⟨"HistoryJudgeModel", "inRow", "(II)Z"⟩ ⟨"HistoryJudgeModel", "inRow", "(II)Z"⟩) ∈ jW := List.mem_of_getElem? (i := 28) (by decide +kernel)
theorem wl29 : (Cond.selects "HistoryJudgeModel" ⟨"HistoryJudgeModel", "closes", "(II)Z"⟩ ⟨"HistoryJudgeModel", "closes", "(II)Z"⟩) ∈ jW := List.mem_of_getElem? (i := 29) (by decide +kernel)
theorem wl30 : (Cond.selects "HistoryJudgeModel" ⟨"HistoryJudgeModel", "allFlaws", "()I"⟩ ⟨"HistoryJudgeModel", "allFlaws", "()I"⟩) ∈ jW := List.mem_of_getElem? (i := 30) (by decide +kernel)
theorem wl31 : (Cond.selects "HistoryJudgeModel" ⟨"HistoryJudgeModel", "readFlaws", "()I"⟩ ⟨"HistoryJudgeModel", "readFlaws", "()I"⟩) ∈ jW := List.mem_of_getElem? (i := 31) (by decide +kernel)
theorem wl32 : (Cond.selects "HistoryJudgeModel" ⟨"HistoryJudgeModel", "tryOrders", "(II)Z"⟩ ⟨"HistoryJudgeModel", "tryOrders", "(II)Z"⟩) ∈ jW := List.mem_of_getElem? (i := 32) (by decide +kernel)
theorem wl33 : (Cond.selects "HistoryJudgeModel" ⟨"HistoryJudgeModel", "committed", "()I"⟩ ⟨"HistoryJudgeModel", "committed", "()I"⟩) ∈ jW := List.mem_of_getElem? (i := 33) (by decide +kernel)
theorem wl34 : (Cond.selects "HistoryJudgeModel" ⟨"HistoryJudgeModel", "runs", "(II)Z"⟩ ⟨"HistoryJudgeModel", "runs", "(II)Z"⟩) ∈ jW := List.mem_of_getElem? (i := 34) (by decide +kernel)
theorem wl35 : (Cond.initialized "HistoryJudgeLaw") ∈ jW := List.mem_of_getElem? (i := 35) (by decide +kernel)
theorem wl36 : (Cond.initialized "HistoryJudge") ∈ jW := List.mem_of_getElem? (i := 36) (by decide +kernel)
theorem wl37 : (Cond.initialized "HistoryJudge$History") ∈ jW := List.mem_of_getElem? (i := 37) (by decide +kernel)
theorem wl38 : (Cond.initialized "java/util/Arrays") ∈ jW := List.mem_of_getElem? (i := 38) (by decide +kernel)
theorem wl39 : (Cond.initialized "HistoryJudge$Graph") ∈ jW := List.mem_of_getElem? (i := 39) (by decide +kernel)
theorem wl40 : (Cond.initialized "HistoryJudge$CycleSearch") ∈ jW := List.mem_of_getElem? (i := 40) (by decide +kernel)
theorem wl41 : (Cond.initialized "HistoryJudge$SerialSearch") ∈ jW := List.mem_of_getElem? (i := 41) (by decide +kernel)
theorem wl42 : (Cond.initialized "HistoryJudgeModel") ∈ jW := List.mem_of_getElem? (i := 42) (by decide +kernel)
theorem wl43 : (Cond.initialized "java/lang/Throwable") ∈ jW := List.mem_of_getElem? (i := 43) (by decide +kernel)
theorem wl44 : (Cond.initialized "java/lang/Exception") ∈ jW := List.mem_of_getElem? (i := 44) (by decide +kernel)
theorem wl45 : (Cond.initialized "java/lang/RuntimeException") ∈ jW := List.mem_of_getElem? (i := 45) (by decide +kernel)
theorem wl46 : (Cond.initialized "java/lang/IllegalArgumentException") ∈ jW := List.mem_of_getElem? (i := 46) (by decide +kernel)
theorem wl47 : (Cond.initialized "java/lang/IllegalStateException") ∈ jW := List.mem_of_getElem? (i := 47) (by decide +kernel)
theorem wl48 : (Cond.initialized "java/lang/UnsupportedOperationException") ∈ jW := List.mem_of_getElem? (i := 48) (by decide +kernel)
theorem wl49 : (Cond.initialized "java/util/NoSuchElementException") ∈ jW := List.mem_of_getElem? (i := 49) (by decide +kernel)
theorem wl50 : (Cond.initialized "java/lang/Integer") ∈ jW := List.mem_of_getElem? (i := 50) (by decide +kernel)
theorem wl51 : (Cond.classLink "HistoryJudgeLaw" 8 "HistoryJudge") ∈ jW := List.mem_of_getElem? (i := 51) (by decide +kernel)
theorem wl52 : (Cond.instantiable "HistoryJudge" 4) ∈ jW := List.mem_of_getElem? (i := 52) (by decide +kernel)
theorem wl53 : (Cond.methodLink "HistoryJudgeLaw" 29 ⟨"HistoryJudge", "<init>", "()V"⟩) ∈ jW := List.mem_of_getElem? (i := 53) (by decide +kernel)
theorem wl54 : (Cond.instanceMethod ⟨"HistoryJudge", "<init>", "()V"⟩) ∈ jW := List.mem_of_getElem? (i := 54) (by decide +kernel)
theorem wl55 : (Cond.code ⟨"HistoryJudge", "<init>", "()V"⟩ prog_1_method_1_code 1 none) ∈ jW := List.mem_of_getElem? (i := 55) (by decide +kernel)
theorem wl56 : (Cond.methodLink "HistoryJudge" 1 ⟨"java/lang/Object", "<init>", "()V"⟩) ∈ jW := List.mem_of_getElem? (i := 56) (by decide +kernel)
theorem wl57 : (Cond.instanceMethod ⟨"java/lang/Object", "<init>", "()V"⟩) ∈ jW := List.mem_of_getElem? (i := 57) (by decide +kernel)
theorem wl58 : (Cond.code ⟨"java/lang/Object", "<init>", "()V"⟩ object_method_1_code 1 none) ∈ jW := List.mem_of_getElem? (i := 58) (by decide +kernel)
theorem wl59 : (Cond.classLink "HistoryJudge" 7 "HistoryJudge$History") ∈ jW := List.mem_of_getElem? (i := 59) (by decide +kernel)
theorem wl60 : (Cond.instantiable "HistoryJudge$History" 12) ∈ jW := List.mem_of_getElem? (i := 60) (by decide +kernel)
theorem wl61 : (Cond.methodLink "HistoryJudge" 9 ⟨"HistoryJudge$History", "<init>", "()V"⟩) ∈ jW := List.mem_of_getElem? (i := 61) (by decide +kernel)
theorem wl62 : (Cond.instanceMethod ⟨"HistoryJudge$History", "<init>", "()V"⟩) ∈ jW := List.mem_of_getElem? (i := 62) (by decide +kernel)
theorem wl63 : (Cond.code ⟨"HistoryJudge$History", "<init>", "()V"⟩ prog_4_method_1_code 1 none) ∈ jW := List.mem_of_getElem? (i := 63) (by decide +kernel)
theorem wl64 : (Cond.methodLink "HistoryJudge$History" 3 ⟨"java/lang/Object", "<init>", "()V"⟩) ∈ jW := List.mem_of_getElem? (i := 64) (by decide +kernel)
theorem wl65 : (Cond.classLink "HistoryJudge$History" 33 "[[I") ∈ jW := List.mem_of_getElem? (i := 65) (by decide +kernel)
theorem wl66 : (Cond.methodLink "HistoryJudge$History" 44 ⟨"HistoryJudge$History", "reset", "()V"⟩) ∈ jW := List.mem_of_getElem? (i := 66) (by decide +kernel)
theorem wl67 : (Cond.instanceMethod ⟨"HistoryJudge$History", "reset", "()V"⟩) ∈ jW := List.mem_of_getElem? (i := 67) (by decide +kernel)
theorem wl68 : (Cond.selects "HistoryJudge$History" ⟨"HistoryJudge$History", "reset", "()V"⟩ ⟨"HistoryJudge$History", "reset", "()V"⟩) ∈ jW := List.mem_of_getElem? (i := 68) (by decide +kernel)
theorem wl69 : (Cond.code ⟨"HistoryJudge$History", "reset", "()V"⟩ prog_4_method_2_code 2 none) ∈ jW := List.mem_of_getElem? (i := 69) (by decide +kernel)
theorem wl70 : (Cond.methodLink "HistoryJudge$History" 54 ⟨"java/util/Arrays", "fill", "([II)V"⟩) ∈ jW := List.mem_of_getElem? (i := 70) (by decide +kernel)
theorem wl71 : (Cond.static ⟨"java/util/Arrays", "fill", "([II)V"⟩) ∈ jW := List.mem_of_getElem? (i := 71) (by decide +kernel)
theorem wl72 : (Cond.code ⟨"java/util/Arrays", "fill", "([II)V"⟩ prog_15_method_103_code 4 none) ∈ jW := List.mem_of_getElem? (i := 72) (by decide +kernel)
theorem wl73 : (Cond.fieldLink "HistoryJudge$History" 9 "HistoryJudge$History" "states" "[I") ∈ jW := List.mem_of_getElem? (i := 73) (by decide +kernel)
theorem wl74 : (Cond.fieldLink "HistoryJudge" 78 "HistoryJudge$History" "states" "[I") ∈ jW := List.mem_of_getElem? (i := 74) (by decide +kernel)
theorem wl75 : (Cond.fieldLink "HistoryJudge$History" 15 "HistoryJudge$History" "writers" "[I") ∈ jW := List.mem_of_getElem? (i := 75) (by decide +kernel)
theorem wl76 : (Cond.fieldLink "HistoryJudge$Graph" 54 "HistoryJudge$History" "writers" "[I") ∈ jW := List.mem_of_getElem? (i := 76) (by decide +kernel)
theorem wl77 : (Cond.fieldLink "HistoryJudge$SerialSearch" 96 "HistoryJudge$History" "writers" "[I") ∈ jW := List.mem_of_getElem? (i := 77) (by decide +kernel)
theorem wl78 : (Cond.fieldLink "HistoryJudge$History" 18 "HistoryJudge$History" "writtenItems" "[I") ∈ jW := List.mem_of_getElem? (i := 78) (by decide +kernel)
theorem wl79 : (Cond.fieldLink "HistoryJudge$History" 47 "HistoryJudge$History" "versions" "I") ∈ jW := List.mem_of_getElem? (i := 79) (by decide +kernel)
theorem wl80 : (Cond.fieldLink "HistoryJudge" 53 "HistoryJudge$History" "versions" "I") ∈ jW := List.mem_of_getElem? (i := 80) (by decide +kernel)
theorem wl81 : (Cond.fieldLink "HistoryJudge$History" 21 "HistoryJudge$History" "readers" "[I") ∈ jW := List.mem_of_getElem? (i := 81) (by decide +kernel)
theorem wl82 : (Cond.fieldLink "HistoryJudge$Graph" 37 "HistoryJudge$History" "readers" "[I") ∈ jW := List.mem_of_getElem? (i := 82) (by decide +kernel)
theorem wl83 : (Cond.fieldLink "HistoryJudge$SerialSearch" 73 "HistoryJudge$History" "readers" "[I") ∈ jW := List.mem_of_getElem? (i := 83) (by decide +kernel)
theorem wl84 : (Cond.fieldLink "HistoryJudge$History" 24 "HistoryJudge$History" "readItems" "[I") ∈ jW := List.mem_of_getElem? (i := 84) (by decide +kernel)
theorem wl85 : (Cond.fieldLink "HistoryJudge$Graph" 64 "HistoryJudge$History" "readItems" "[I") ∈ jW := List.mem_of_getElem? (i := 85) (by decide +kernel)
theorem wl86 : (Cond.fieldLink "HistoryJudge$SerialSearch" 89 "HistoryJudge$History" "readItems" "[I") ∈ jW := List.mem_of_getElem? (i := 86) (by decide +kernel)
theorem wl87 : (Cond.fieldLink "HistoryJudge$History" 27 "HistoryJudge$History" "readVersions" "[I") ∈ jW := List.mem_of_getElem? (i := 87) (by decide +kernel)
theorem wl88 : (Cond.fieldLink "HistoryJudge$Graph" 61 "HistoryJudge$History" "readVersions" "[I") ∈ jW := List.mem_of_getElem? (i := 88) (by decide +kernel)
theorem wl89 : (Cond.fieldLink "HistoryJudge$SerialSearch" 83 "HistoryJudge$History" "readVersions" "[I") ∈ jW := List.mem_of_getElem? (i := 89) (by decide +kernel)
theorem wl90 : (Cond.fieldLink "HistoryJudge$History" 30 "HistoryJudge$History" "ownVersions" "[I") ∈ jW := List.mem_of_getElem? (i := 90) (by decide +kernel)
theorem wl91 : (Cond.fieldLink "HistoryJudge$SerialSearch" 86 "HistoryJudge$History" "ownVersions" "[I") ∈ jW := List.mem_of_getElem? (i := 91) (by decide +kernel)
theorem wl92 : (Cond.fieldLink "HistoryJudge$History" 51 "HistoryJudge$History" "reads" "I") ∈ jW := List.mem_of_getElem? (i := 92) (by decide +kernel)
theorem wl93 : (Cond.fieldLink "HistoryJudge$Graph" 31 "HistoryJudge$History" "reads" "I") ∈ jW := List.mem_of_getElem? (i := 93) (by decide +kernel)
theorem wl94 : (Cond.fieldLink "HistoryJudge" 71 "HistoryJudge$History" "reads" "I") ∈ jW := List.mem_of_getElem? (i := 94) (by decide +kernel)
theorem wl95 : (Cond.fieldLink "HistoryJudge$SerialSearch" 70 "HistoryJudge$History" "reads" "I") ∈ jW := List.mem_of_getElem? (i := 95) (by decide +kernel)
theorem wl96 : (Cond.fieldLink "HistoryJudge$History" 35 "HistoryJudge$History" "latest" "[[I") ∈ jW := List.mem_of_getElem? (i := 96) (by decide +kernel)
theorem wl97 : (Cond.fieldLink "HistoryJudge$History" 38 "HistoryJudge$History" "order" "[[I") ∈ jW := List.mem_of_getElem? (i := 97) (by decide +kernel)
theorem wl98 : (Cond.fieldLink "HistoryJudge$Graph" 47 "HistoryJudge$History" "order" "[[I") ∈ jW := List.mem_of_getElem? (i := 98) (by decide +kernel)
theorem wl99 : (Cond.fieldLink "HistoryJudge" 89 "HistoryJudge$History" "order" "[[I") ∈ jW := List.mem_of_getElem? (i := 99) (by decide +kernel)
theorem wl100 : (Cond.fieldLink "HistoryJudge$History" 41 "HistoryJudge$History" "ordered" "[I") ∈ jW := List.mem_of_getElem? (i := 100) (by decide +kernel)
theorem wl101 : (Cond.fieldLink "HistoryJudge$Graph" 51 "HistoryJudge$History" "ordered" "[I") ∈ jW := List.mem_of_getElem? (i := 101) (by decide +kernel)
theorem wl102 : (Cond.fieldLink "HistoryJudge" 86 "HistoryJudge$History" "ordered" "[I") ∈ jW := List.mem_of_getElem? (i := 102) (by decide +kernel)
theorem wl103 : (Cond.laysFinal "HistoryJudge$History" "HistoryJudge$History" "states" "[I") ∈ jW := List.mem_of_getElem? (i := 103) (by decide +kernel)
theorem wl104 : (Cond.laysFinal "HistoryJudge$History" "HistoryJudge$History" "writers" "[I") ∈ jW := List.mem_of_getElem? (i := 104) (by decide +kernel)
theorem wl105 : (Cond.laysFinal "HistoryJudge$History" "HistoryJudge$History" "writtenItems" "[I") ∈ jW := List.mem_of_getElem? (i := 105) (by decide +kernel)
theorem wl106 : (Cond.lays "HistoryJudge$History" "HistoryJudge$History" "versions" "I") ∈ jW := List.mem_of_getElem? (i := 106) (by decide +kernel)
theorem wl107 : (Cond.laysFinal "HistoryJudge$History" "HistoryJudge$History" "readers" "[I") ∈ jW := List.mem_of_getElem? (i := 107) (by decide +kernel)
theorem wl108 : (Cond.laysFinal "HistoryJudge$History" "HistoryJudge$History" "readItems" "[I") ∈ jW := List.mem_of_getElem? (i := 108) (by decide +kernel)
theorem wl109 : (Cond.laysFinal "HistoryJudge$History" "HistoryJudge$History" "readVersions" "[I") ∈ jW := List.mem_of_getElem? (i := 109) (by decide +kernel)
theorem wl110 : (Cond.laysFinal "HistoryJudge$History" "HistoryJudge$History" "ownVersions" "[I") ∈ jW := List.mem_of_getElem? (i := 110) (by decide +kernel)
theorem wl111 : (Cond.lays "HistoryJudge$History" "HistoryJudge$History" "reads" "I") ∈ jW := List.mem_of_getElem? (i := 111) (by decide +kernel)
theorem wl112 : (Cond.laysFinal "HistoryJudge$History" "HistoryJudge$History" "latest" "[[I") ∈ jW := List.mem_of_getElem? (i := 112) (by decide +kernel)
theorem wl113 : (Cond.laysFinal "HistoryJudge$History" "HistoryJudge$History" "order" "[[I") ∈ jW := List.mem_of_getElem? (i := 113) (by decide +kernel)
theorem wl114 : (Cond.laysFinal "HistoryJudge$History" "HistoryJudge$History" "ordered" "[I") ∈ jW := List.mem_of_getElem? (i := 114) (by decide +kernel)
theorem wl115 : (Cond.arrayClass FieldType.int) ∈ jW := List.mem_of_getElem? (i := 115) (by decide +kernel)
theorem wl116 : (Cond.classLink "HistoryJudge" 16 "HistoryJudge$Graph") ∈ jW := List.mem_of_getElem? (i := 116) (by decide +kernel)
theorem wl117 : (Cond.instantiable "HistoryJudge$Graph" 3) ∈ jW := List.mem_of_getElem? (i := 117) (by decide +kernel)
theorem wl118 : (Cond.instanceMethod ⟨"HistoryJudge$Graph", "<init>", "()V"⟩) ∈ jW := List.mem_of_getElem? (i := 118) (by decide +kernel)
theorem wl119 : (Cond.code ⟨"HistoryJudge$Graph", "<init>", "()V"⟩ prog_3_method_1_code 1 none) ∈ jW := List.mem_of_getElem? (i := 119) (by decide +kernel)
theorem wl120 : (Cond.methodLink "HistoryJudge$Graph" 3 ⟨"java/lang/Object", "<init>", "()V"⟩) ∈ jW := List.mem_of_getElem? (i := 120) (by decide +kernel)
theorem wl121 : (Cond.fieldLink "HistoryJudge$Graph" 9 "HistoryJudge$Graph" "ww" "[I") ∈ jW := List.mem_of_getElem? (i := 121) (by decide +kernel)
theorem wl122 : (Cond.fieldLink "HistoryJudge$CycleSearch" 51 "HistoryJudge$Graph" "ww" "[I") ∈ jW := List.mem_of_getElem? (i := 122) (by decide +kernel)
theorem wl123 : (Cond.fieldLink "HistoryJudge" 97 "HistoryJudge$Graph" "ww" "[I") ∈ jW := List.mem_of_getElem? (i := 123) (by decide +kernel)
theorem wl124 : (Cond.fieldLink "HistoryJudge$Graph" 15 "HistoryJudge$Graph" "wr" "[I") ∈ jW := List.mem_of_getElem? (i := 124) (by decide +kernel)
theorem wl125 : (Cond.fieldLink "HistoryJudge$CycleSearch" 43 "HistoryJudge$Graph" "wr" "[I") ∈ jW := List.mem_of_getElem? (i := 125) (by decide +kernel)
theorem wl126 : (Cond.fieldLink "HistoryJudge" 103 "HistoryJudge$Graph" "wr" "[I") ∈ jW := List.mem_of_getElem? (i := 126) (by decide +kernel)
theorem wl127 : (Cond.fieldLink "HistoryJudge$Graph" 18 "HistoryJudge$Graph" "rw" "[I") ∈ jW := List.mem_of_getElem? (i := 127) (by decide +kernel)
theorem wl128 : (Cond.fieldLink "HistoryJudge$CycleSearch" 48 "HistoryJudge$Graph" "rw" "[I") ∈ jW := List.mem_of_getElem? (i := 128) (by decide +kernel)
theorem wl129 : (Cond.fieldLink "HistoryJudge" 106 "HistoryJudge$Graph" "rw" "[I") ∈ jW := List.mem_of_getElem? (i := 129) (by decide +kernel)
theorem wl130 : (Cond.laysFinal "HistoryJudge$Graph" "HistoryJudge$Graph" "ww" "[I") ∈ jW := List.mem_of_getElem? (i := 130) (by decide +kernel)
theorem wl131 : (Cond.laysFinal "HistoryJudge$Graph" "HistoryJudge$Graph" "wr" "[I") ∈ jW := List.mem_of_getElem? (i := 131) (by decide +kernel)
theorem wl132 : (Cond.laysFinal "HistoryJudge$Graph" "HistoryJudge$Graph" "rw" "[I") ∈ jW := List.mem_of_getElem? (i := 132) (by decide +kernel)
theorem wl133 : (Cond.classLink "HistoryJudge" 23 "HistoryJudge$CycleSearch") ∈ jW := List.mem_of_getElem? (i := 133) (by decide +kernel)
theorem wl134 : (Cond.instantiable "HistoryJudge$CycleSearch" 5) ∈ jW := List.mem_of_getElem? (i := 134) (by decide +kernel)
theorem wl135 : (Cond.instanceMethod ⟨"HistoryJudge$CycleSearch", "<init>", "()V"⟩) ∈ jW := List.mem_of_getElem? (i := 135) (by decide +kernel)
theorem wl136 : (Cond.code ⟨"HistoryJudge$CycleSearch", "<init>", "()V"⟩ prog_2_method_1_code 1 none) ∈ jW := List.mem_of_getElem? (i := 136) (by decide +kernel)
theorem wl137 : (Cond.methodLink "HistoryJudge$CycleSearch" 3 ⟨"java/lang/Object", "<init>", "()V"⟩) ∈ jW := List.mem_of_getElem? (i := 137) (by decide +kernel)
theorem wl138 : (Cond.fieldLink "HistoryJudge$CycleSearch" 9 "HistoryJudge$CycleSearch" "plain" "[I") ∈ jW := List.mem_of_getElem? (i := 138) (by decide +kernel)
theorem wl139 : (Cond.fieldLink "HistoryJudge$CycleSearch" 15 "HistoryJudge$CycleSearch" "marked" "[I") ∈ jW := List.mem_of_getElem? (i := 139) (by decide +kernel)
theorem wl140 : (Cond.fieldLink "HistoryJudge$CycleSearch" 18 "HistoryJudge$CycleSearch" "paid" "[I") ∈ jW := List.mem_of_getElem? (i := 140) (by decide +kernel)
theorem wl141 : (Cond.fieldLink "HistoryJudge$CycleSearch" 21 "HistoryJudge$CycleSearch" "owing" "[I") ∈ jW := List.mem_of_getElem? (i := 141) (by decide +kernel)
theorem wl142 : (Cond.fieldLink "HistoryJudge$CycleSearch" 24 "HistoryJudge$CycleSearch" "row" "[I") ∈ jW := List.mem_of_getElem? (i := 142) (by decide +kernel)
theorem wl143 : (Cond.fieldLink "HistoryJudge" 128 "HistoryJudge$CycleSearch" "row" "[I") ∈ jW := List.mem_of_getElem? (i := 143) (by decide +kernel)
theorem wl144 : (Cond.laysFinal "HistoryJudge$CycleSearch" "HistoryJudge$CycleSearch" "plain" "[I") ∈ jW := List.mem_of_getElem? (i := 144) (by decide +kernel)
theorem wl145 : (Cond.laysFinal "HistoryJudge$CycleSearch" "HistoryJudge$CycleSearch" "marked" "[I") ∈ jW := List.mem_of_getElem? (i := 145) (by decide +kernel)
theorem wl146 : (Cond.laysFinal "HistoryJudge$CycleSearch" "HistoryJudge$CycleSearch" "paid" "[I") ∈ jW := List.mem_of_getElem? (i := 146) (by decide +kernel)
theorem wl147 : (Cond.laysFinal "HistoryJudge$CycleSearch" "HistoryJudge$CycleSearch" "owing" "[I") ∈ jW := List.mem_of_getElem? (i := 147) (by decide +kernel)
theorem wl148 : (Cond.laysFinal "HistoryJudge$CycleSearch" "HistoryJudge$CycleSearch" "row" "[I") ∈ jW := List.mem_of_getElem? (i := 148) (by decide +kernel)
theorem wl149 : (Cond.classLink "HistoryJudge" 30 "HistoryJudge$SerialSearch") ∈ jW := List.mem_of_getElem? (i := 149) (by decide +kernel)
theorem wl150 : (Cond.instantiable "HistoryJudge$SerialSearch" 5) ∈ jW := List.mem_of_getElem? (i := 150) (by decide +kernel)
theorem wl151 : (Cond.instanceMethod ⟨"HistoryJudge$SerialSearch", "<init>", "()V"⟩) ∈ jW := List.mem_of_getElem? (i := 151) (by decide +kernel)
theorem wl152 : (Cond.code ⟨"HistoryJudge$SerialSearch", "<init>", "()V"⟩ prog_5_method_1_code 1 none) ∈ jW := List.mem_of_getElem? (i := 152) (by decide +kernel)
theorem wl153 : (Cond.methodLink "HistoryJudge$SerialSearch" 3 ⟨"java/lang/Object", "<init>", "()V"⟩) ∈ jW := List.mem_of_getElem? (i := 153) (by decide +kernel)
theorem wl154 : (Cond.classLink "HistoryJudge$SerialSearch" 15 "[[I") ∈ jW := List.mem_of_getElem? (i := 154) (by decide +kernel)
theorem wl155 : (Cond.fieldLink "HistoryJudge$SerialSearch" 9 "HistoryJudge$SerialSearch" "before" "[I") ∈ jW := List.mem_of_getElem? (i := 155) (by decide +kernel)
theorem wl156 : (Cond.fieldLink "HistoryJudge$SerialSearch" 17 "HistoryJudge$SerialSearch" "readersBetween" "[[I") ∈ jW := List.mem_of_getElem? (i := 156) (by decide +kernel)
theorem wl157 : (Cond.fieldLink "HistoryJudge$SerialSearch" 20 "HistoryJudge$SerialSearch" "nexts" "[I") ∈ jW := List.mem_of_getElem? (i := 157) (by decide +kernel)
theorem wl158 : (Cond.fieldLink "HistoryJudge" 140 "HistoryJudge$SerialSearch" "nexts" "[I") ∈ jW := List.mem_of_getElem? (i := 158) (by decide +kernel)
theorem wl159 : (Cond.fieldLink "HistoryJudge$SerialSearch" 31 "HistoryJudge$SerialSearch" "committed" "I") ∈ jW := List.mem_of_getElem? (i := 159) (by decide +kernel)
theorem wl160 : (Cond.fieldLink "HistoryJudge$SerialSearch" 27 "HistoryJudge$SerialSearch" "sound" "Z") ∈ jW := List.mem_of_getElem? (i := 160) (by decide +kernel)
theorem wl161 : (Cond.laysFinal "HistoryJudge$SerialSearch" "HistoryJudge$SerialSearch" "before" "[I") ∈ jW := List.mem_of_getElem? (i := 161) (by decide +kernel)
theorem wl162 : (Cond.laysFinal "HistoryJudge$SerialSearch" "HistoryJudge$SerialSearch" "readersBetween" "[[I") ∈ jW := List.mem_of_getElem? (i := 162) (by decide +kernel)
theorem wl163 : (Cond.laysFinal "HistoryJudge$SerialSearch" "HistoryJudge$SerialSearch" "nexts" "[I") ∈ jW := List.mem_of_getElem? (i := 163) (by decide +kernel)
theorem wl164 : (Cond.lays "HistoryJudge$SerialSearch" "HistoryJudge$SerialSearch" "committed" "I") ∈ jW := List.mem_of_getElem? (i := 164) (by decide +kernel)
theorem wl165 : (Cond.lays "HistoryJudge$SerialSearch" "HistoryJudge$SerialSearch" "sound" "Z") ∈ jW := List.mem_of_getElem? (i := 165) (by decide +kernel)
theorem wl166 : (Cond.fieldLink "HistoryJudge" 10 "HistoryJudge" "history" "LHistoryJudge$History;") ∈ jW := List.mem_of_getElem? (i := 166) (by decide +kernel)
theorem wl167 : (Cond.fieldLink "HistoryJudge" 19 "HistoryJudge" "graph" "LHistoryJudge$Graph;") ∈ jW := List.mem_of_getElem? (i := 167) (by decide +kernel)
theorem wl168 : (Cond.fieldLink "HistoryJudge" 26 "HistoryJudge" "cycles" "LHistoryJudge$CycleSearch;") ∈ jW := List.mem_of_getElem? (i := 168) (by decide +kernel)
theorem wl169 : (Cond.fieldLink "HistoryJudge" 33 "HistoryJudge" "serials" "LHistoryJudge$SerialSearch;") ∈ jW := List.mem_of_getElem? (i := 169) (by decide +kernel)
theorem wl170 : (Cond.laysFinal "HistoryJudge" "HistoryJudge" "history" "LHistoryJudge$History;") ∈ jW := List.mem_of_getElem? (i := 170) (by decide +kernel)
theorem wl171 : (Cond.laysFinal "HistoryJudge" "HistoryJudge" "graph" "LHistoryJudge$Graph;") ∈ jW := List.mem_of_getElem? (i := 171) (by decide +kernel)
theorem wl172 : (Cond.laysFinal "HistoryJudge" "HistoryJudge" "cycles" "LHistoryJudge$CycleSearch;") ∈ jW := List.mem_of_getElem? (i := 172) (by decide +kernel)
theorem wl173 : (Cond.laysFinal "HistoryJudge" "HistoryJudge" "serials" "LHistoryJudge$SerialSearch;") ∈ jW := List.mem_of_getElem? (i := 173) (by decide +kernel)
theorem wl174 : (Cond.methodLink "HistoryJudgeLaw" 51 ⟨"HistoryJudge", "state", "(I)I"⟩) ∈ jW := List.mem_of_getElem? (i := 174) (by decide +kernel)
theorem wl175 : (Cond.instanceMethod ⟨"HistoryJudge", "state", "(I)I"⟩) ∈ jW := List.mem_of_getElem? (i := 175) (by decide +kernel)
theorem wl176 : (Cond.selects "HistoryJudge" ⟨"HistoryJudge", "state", "(I)I"⟩ ⟨"HistoryJudge", "state", "(I)I"⟩) ∈ jW := List.mem_of_getElem? (i := 176) (by decide +kernel)
theorem wl177 : (Cond.code ⟨"HistoryJudge", "state", "(I)I"⟩ prog_1_method_5_code 2 (some FieldType.int)) ∈ jW := List.mem_of_getElem? (i := 177) (by decide +kernel)
theorem wl178 : (Cond.methodLink "HistoryJudge" 37 ⟨"HistoryJudge", "isTransaction", "(I)Z"⟩) ∈ jW := List.mem_of_getElem? (i := 178) (by decide +kernel)
theorem wl179 : (Cond.static ⟨"HistoryJudge", "isTransaction", "(I)Z"⟩) ∈ jW := List.mem_of_getElem? (i := 179) (by decide +kernel)
theorem wl180 : (Cond.code ⟨"HistoryJudge", "isTransaction", "(I)Z"⟩ prog_1_method_17_code 1 (some FieldType.boolean)) ∈ jW := List.mem_of_getElem? (i := 180) (by decide +kernel)
theorem wl181 : (Cond.methodLink "HistoryJudgeLaw" 56 ⟨"HistoryJudge", "version", "(II)I"⟩) ∈ jW := List.mem_of_getElem? (i := 181) (by decide +kernel)
theorem wl182 : (Cond.instanceMethod ⟨"HistoryJudge", "version", "(II)I"⟩) ∈ jW := List.mem_of_getElem? (i := 182) (by decide +kernel)
theorem wl183 : (Cond.selects "HistoryJudge" ⟨"HistoryJudge", "version", "(II)I"⟩ ⟨"HistoryJudge", "version", "(II)I"⟩) ∈ jW := List.mem_of_getElem? (i := 183) (by decide +kernel)
theorem wl184 : (Cond.code ⟨"HistoryJudge", "version", "(II)I"⟩ prog_1_method_6_code 3 (some FieldType.int)) ∈ jW := List.mem_of_getElem? (i := 184) (by decide +kernel)
theorem wl185 : (Cond.methodLink "HistoryJudge" 41 ⟨"HistoryJudge", "isItem", "(I)Z"⟩) ∈ jW := List.mem_of_getElem? (i := 185) (by decide +kernel)
theorem wl186 : (Cond.static ⟨"HistoryJudge", "isItem", "(I)Z"⟩) ∈ jW := List.mem_of_getElem? (i := 186) (by decide +kernel)
theorem wl187 : (Cond.code ⟨"HistoryJudge", "isItem", "(I)Z"⟩ prog_1_method_18_code 1 (some FieldType.boolean)) ∈ jW := List.mem_of_getElem? (i := 187) (by decide +kernel)
theorem wl188 : (Cond.methodLink "HistoryJudgeLaw" 60 ⟨"HistoryJudge", "exchange", "(II)Z"⟩) ∈ jW := List.mem_of_getElem? (i := 188) (by decide +kernel)
theorem wl189 : (Cond.instanceMethod ⟨"HistoryJudge", "exchange", "(II)Z"⟩) ∈ jW := List.mem_of_getElem? (i := 189) (by decide +kernel)
theorem wl190 : (Cond.selects "HistoryJudge" ⟨"HistoryJudge", "exchange", "(II)Z"⟩ ⟨"HistoryJudge", "exchange", "(II)Z"⟩) ∈ jW := List.mem_of_getElem? (i := 190) (by decide +kernel)
theorem wl191 : (Cond.code ⟨"HistoryJudge", "exchange", "(II)Z"⟩ prog_1_method_7_code 5 (some FieldType.boolean)) ∈ jW := List.mem_of_getElem? (i := 191) (by decide +kernel)
theorem wl192 : (Cond.methodLink "HistoryJudgeLaw" 65 ⟨"HistoryJudge", "edges", "(II)I"⟩) ∈ jW := List.mem_of_getElem? (i := 192) (by decide +kernel)
theorem wl193 : (Cond.instanceMethod ⟨"HistoryJudge", "edges", "(II)I"⟩) ∈ jW := List.mem_of_getElem? (i := 193) (by decide +kernel)
theorem wl194 : (Cond.selects "HistoryJudge" ⟨"HistoryJudge", "edges", "(II)I"⟩ ⟨"HistoryJudge", "edges", "(II)I"⟩) ∈ jW := List.mem_of_getElem? (i := 194) (by decide +kernel)
theorem wl195 : (Cond.code ⟨"HistoryJudge", "edges", "(II)I"⟩ prog_1_method_8_code 3 (some FieldType.int)) ∈ jW := List.mem_of_getElem? (i := 195) (by decide +kernel)
theorem wl196 : (Cond.methodLink "HistoryJudge" 93 ⟨"HistoryJudge$Graph", "draw", "(LHistoryJudge$History;)V"⟩) ∈ jW := List.mem_of_getElem? (i := 196) (by decide +kernel)
theorem wl197 : (Cond.instanceMethod ⟨"HistoryJudge$Graph", "draw", "(LHistoryJudge$History;)V"⟩) ∈ jW := List.mem_of_getElem? (i := 197) (by decide +kernel)
theorem wl198 : (Cond.selects "HistoryJudge$Graph" ⟨"HistoryJudge$Graph", "draw", "(LHistoryJudge$History;)V"⟩ ⟨"HistoryJudge$Graph", "draw", "(LHistoryJudge$History;)V"⟩) ∈ jW := List.mem_of_getElem? (i := 198) (by decide +kernel)
theorem wl199 : (Cond.code ⟨"HistoryJudge$Graph", "draw", "(LHistoryJudge$History;)V"⟩ prog_3_method_2_code 3 none) ∈ jW := List.mem_of_getElem? (i := 199) (by decide +kernel)
theorem wl200 : (Cond.methodLink "HistoryJudge$Graph" 21 ⟨"java/util/Arrays", "fill", "([II)V"⟩) ∈ jW := List.mem_of_getElem? (i := 200) (by decide +kernel)
theorem wl201 : (Cond.methodLink "HistoryJudge$Graph" 27 ⟨"HistoryJudge$Graph", "drawOrder", "(LHistoryJudge$History;I)V"⟩) ∈ jW := List.mem_of_getElem? (i := 201) (by decide +kernel)
theorem wl202 : (Cond.instanceMethod ⟨"HistoryJudge$Graph", "drawOrder", "(LHistoryJudge$History;I)V"⟩) ∈ jW := List.mem_of_getElem? (i := 202) (by decide +kernel)
theorem wl203 : (Cond.code ⟨"HistoryJudge$Graph", "drawOrder", "(LHistoryJudge$History;I)V"⟩ prog_3_method_3_code 5 none) ∈ jW := List.mem_of_getElem? (i := 203) (by decide +kernel)
theorem wl204 : (Cond.methodLink "HistoryJudge$Graph" 57 ⟨"HistoryJudge$Graph", "join", "([III)V"⟩) ∈ jW := List.mem_of_getElem? (i := 204) (by decide +kernel)
theorem wl205 : (Cond.static ⟨"HistoryJudge$Graph", "join", "([III)V"⟩) ∈ jW := List.mem_of_getElem? (i := 205) (by decide +kernel)
theorem wl206 : (Cond.code ⟨"HistoryJudge$Graph", "join", "([III)V"⟩ prog_3_method_5_code 3 none) ∈ jW := List.mem_of_getElem? (i := 206) (by decide +kernel)
theorem wl207 : (Cond.static ⟨"HistoryJudge", "only", "(I)I"⟩) ∈ jW := List.mem_of_getElem? (i := 207) (by decide +kernel)
theorem wl208 : (Cond.code ⟨"HistoryJudge", "only", "(I)I"⟩ prog_1_method_19_code 1 (some FieldType.int)) ∈ jW := List.mem_of_getElem? (i := 208) (by decide +kernel)
theorem wl209 : (Cond.methodLink "HistoryJudge$Graph" 40 ⟨"HistoryJudge$History", "isCommitted", "(I)Z"⟩) ∈ jW := List.mem_of_getElem? (i := 209) (by decide +kernel)
theorem wl210 : (Cond.instanceMethod ⟨"HistoryJudge$History", "isCommitted", "(I)Z"⟩) ∈ jW := List.mem_of_getElem? (i := 210) (by decide +kernel)
theorem wl211 : (Cond.selects "HistoryJudge$History" ⟨"HistoryJudge$History", "isCommitted", "(I)Z"⟩ ⟨"HistoryJudge$History", "isCommitted", "(I)Z"⟩) ∈ jW := List.mem_of_getElem? (i := 211) (by decide +kernel)
theorem wl212 : (Cond.code ⟨"HistoryJudge$History", "isCommitted", "(I)Z"⟩ prog_4_method_4_code 2 (some FieldType.boolean)) ∈ jW := List.mem_of_getElem? (i := 212) (by decide +kernel)
theorem wl213 : (Cond.methodLink "HistoryJudge$Graph" 44 ⟨"HistoryJudge$Graph", "drawRead", "(LHistoryJudge$History;I)V"⟩) ∈ jW := List.mem_of_getElem? (i := 213) (by decide +kernel)
theorem wl214 : (Cond.instanceMethod ⟨"HistoryJudge$Graph", "drawRead", "(LHistoryJudge$History;I)V"⟩) ∈ jW := List.mem_of_getElem? (i := 214) (by decide +kernel)
theorem wl215 : (Cond.code ⟨"HistoryJudge$Graph", "drawRead", "(LHistoryJudge$History;I)V"⟩ prog_3_method_4_code 6 none) ∈ jW := List.mem_of_getElem? (i := 215) (by decide +kernel)
theorem wl216 : (Cond.methodLink "HistoryJudge$Graph" 67 ⟨"HistoryJudge$History", "writerOfNext", "(II)I"⟩) ∈ jW := List.mem_of_getElem? (i := 216) (by decide +kernel)
theorem wl217 : (Cond.instanceMethod ⟨"HistoryJudge$History", "writerOfNext", "(II)I"⟩) ∈ jW := List.mem_of_getElem? (i := 217) (by decide +kernel)
theorem wl218 : (Cond.selects "HistoryJudge$History" ⟨"HistoryJudge$History", "writerOfNext", "(II)I"⟩ ⟨"HistoryJudge$History", "writerOfNext", "(II)I"⟩) ∈ jW := List.mem_of_getElem? (i := 218) (by decide +kernel)
theorem wl219 : (Cond.code ⟨"HistoryJudge$History", "writerOfNext", "(II)I"⟩ prog_4_method_12_code 4 (some FieldType.int)) ∈ jW := List.mem_of_getElem? (i := 219) (by decide +kernel)
theorem wl220 : (Cond.methodLink "HistoryJudge$History" 68 ⟨"HistoryJudge$History", "placeBehind", "(II)I"⟩) ∈ jW := List.mem_of_getElem? (i := 220) (by decide +kernel)
theorem wl221 : (Cond.instanceMethod ⟨"HistoryJudge$History", "placeBehind", "(II)I"⟩) ∈ jW := List.mem_of_getElem? (i := 221) (by decide +kernel)
theorem wl222 : (Cond.code ⟨"HistoryJudge$History", "placeBehind", "(II)I"⟩ prog_4_method_13_code 4 (some FieldType.int)) ∈ jW := List.mem_of_getElem? (i := 222) (by decide +kernel)
theorem wl223 : (Cond.methodLink "HistoryJudge" 100 ⟨"HistoryJudge", "has", "(II)Z"⟩) ∈ jW := List.mem_of_getElem? (i := 223) (by decide +kernel)
theorem wl224 : (Cond.static ⟨"HistoryJudge", "has", "(II)Z"⟩) ∈ jW := List.mem_of_getElem? (i := 224) (by decide +kernel)
theorem wl225 : (Cond.code ⟨"HistoryJudge", "has", "(II)Z"⟩ prog_1_method_20_code 2 (some FieldType.boolean)) ∈ jW := List.mem_of_getElem? (i := 225) (by decide +kernel)
theorem wl226 : (Cond.methodLink "HistoryJudge" 151 ⟨"HistoryJudge", "only", "(I)I"⟩) ∈ jW := List.mem_of_getElem? (i := 226) (by decide +kernel)
theorem wl227 : (Cond.methodLink "HistoryJudgeLaw" 69 ⟨"HistoryJudge", "flaws", "()I"⟩) ∈ jW := List.mem_of_getElem? (i := 227) (by decide +kernel)
theorem wl228 : (Cond.instanceMethod ⟨"HistoryJudge", "flaws", "()I"⟩) ∈ jW := List.mem_of_getElem? (i := 228) (by decide +kernel)
theorem wl229 : (Cond.selects "HistoryJudge" ⟨"HistoryJudge", "flaws", "()I"⟩ ⟨"HistoryJudge", "flaws", "()I"⟩) ∈ jW := List.mem_of_getElem? (i := 229) (by decide +kernel)
theorem wl230 : (Cond.code ⟨"HistoryJudge", "flaws", "()I"⟩ prog_1_method_9_code 1 (some FieldType.int)) ∈ jW := List.mem_of_getElem? (i := 230) (by decide +kernel)
theorem wl231 : (Cond.methodLink "HistoryJudge" 109 ⟨"HistoryJudge$CycleSearch", "find", "(LHistoryJudge$Graph;I)I"⟩) ∈ jW := List.mem_of_getElem? (i := 231) (by decide +kernel)
theorem wl232 : (Cond.instanceMethod ⟨"HistoryJudge$CycleSearch", "find", "(LHistoryJudge$Graph;I)I"⟩) ∈ jW := List.mem_of_getElem? (i := 232) (by decide +kernel)
theorem wl233 : (Cond.selects "HistoryJudge$CycleSearch" ⟨"HistoryJudge$CycleSearch", "find", "(LHistoryJudge$Graph;I)I"⟩ ⟨"HistoryJudge$CycleSearch", "find", "(LHistoryJudge$Graph;I)I"⟩) ∈ jW := List.mem_of_getElem? (i := 233) (by decide +kernel)
theorem wl234 : (Cond.code ⟨"HistoryJudge$CycleSearch", "find", "(LHistoryJudge$Graph;I)I"⟩ prog_2_method_2_code 8 (some FieldType.int)) ∈ jW := List.mem_of_getElem? (i := 234) (by decide +kernel)
theorem wl235 : (Cond.methodLink "HistoryJudge$CycleSearch" 27 ⟨"HistoryJudge$CycleSearch", "sortEdges", "(LHistoryJudge$Graph;I)V"⟩) ∈ jW := List.mem_of_getElem? (i := 235) (by decide +kernel)
theorem wl236 : (Cond.instanceMethod ⟨"HistoryJudge$CycleSearch", "sortEdges", "(LHistoryJudge$Graph;I)V"⟩) ∈ jW := List.mem_of_getElem? (i := 236) (by decide +kernel)
theorem wl237 : (Cond.code ⟨"HistoryJudge$CycleSearch", "sortEdges", "(LHistoryJudge$Graph;I)V"⟩ prog_2_method_3_code 6 none) ∈ jW := List.mem_of_getElem? (i := 237) (by decide +kernel)
theorem wl238 : (Cond.methodLink "HistoryJudge$CycleSearch" 31 ⟨"HistoryJudge$CycleSearch", "measure", "(I)V"⟩) ∈ jW := List.mem_of_getElem? (i := 238) (by decide +kernel)
theorem wl239 : (Cond.instanceMethod ⟨"HistoryJudge$CycleSearch", "measure", "(I)V"⟩) ∈ jW := List.mem_of_getElem? (i := 239) (by decide +kernel)
theorem wl240 : (Cond.code ⟨"HistoryJudge$CycleSearch", "measure", "(I)V"⟩ prog_2_method_4_code 3 none) ∈ jW := List.mem_of_getElem? (i := 240) (by decide +kernel)
theorem wl241 : (Cond.methodLink "HistoryJudge$CycleSearch" 58 ⟨"HistoryJudge$CycleSearch", "leadingInto", "([II)I"⟩) ∈ jW := List.mem_of_getElem? (i := 241) (by decide +kernel)
theorem wl242 : (Cond.static ⟨"HistoryJudge$CycleSearch", "leadingInto", "([II)I"⟩) ∈ jW := List.mem_of_getElem? (i := 242) (by decide +kernel)
theorem wl243 : (Cond.code ⟨"HistoryJudge$CycleSearch", "leadingInto", "([II)I"⟩ prog_2_method_5_code 4 (some FieldType.int)) ∈ jW := List.mem_of_getElem? (i := 243) (by decide +kernel)
theorem wl244 : (Cond.methodLink "HistoryJudge$CycleSearch" 35 ⟨"HistoryJudge$CycleSearch", "shortest", "([II)I"⟩) ∈ jW := List.mem_of_getElem? (i := 244) (by decide +kernel)
theorem wl245 : (Cond.static ⟨"HistoryJudge$CycleSearch", "shortest", "([II)I"⟩) ∈ jW := List.mem_of_getElem? (i := 245) (by decide +kernel)
theorem wl246 : (Cond.code ⟨"HistoryJudge$CycleSearch", "shortest", "([II)I"⟩ prog_2_method_6_code 3 (some FieldType.int)) ∈ jW := List.mem_of_getElem? (i := 246) (by decide +kernel)
theorem wl247 : (Cond.methodLink "HistoryJudge$CycleSearch" 39 ⟨"HistoryJudge$CycleSearch", "trace", "(IIZ)V"⟩) ∈ jW := List.mem_of_getElem? (i := 247) (by decide +kernel)
theorem wl248 : (Cond.instanceMethod ⟨"HistoryJudge$CycleSearch", "trace", "(IIZ)V"⟩) ∈ jW := List.mem_of_getElem? (i := 248) (by decide +kernel)
theorem wl249 : (Cond.code ⟨"HistoryJudge$CycleSearch", "trace", "(IIZ)V"⟩ prog_2_method_7_code 13 none) ∈ jW := List.mem_of_getElem? (i := 249) (by decide +kernel)
theorem wl250 : (Cond.static ⟨"HistoryJudge", "least", "(I)I"⟩) ∈ jW := List.mem_of_getElem? (i := 250) (by decide +kernel)
theorem wl251 : (Cond.code ⟨"HistoryJudge", "least", "(I)I"⟩ prog_1_method_21_code 2 (some FieldType.int)) ∈ jW := List.mem_of_getElem? (i := 251) (by decide +kernel)
theorem wl252 : (Cond.methodLink "HistoryJudge" 113 ⟨"HistoryJudge$History", "hasAbortedRead", "()Z"⟩) ∈ jW := List.mem_of_getElem? (i := 252) (by decide +kernel)
theorem wl253 : (Cond.instanceMethod ⟨"HistoryJudge$History", "hasAbortedRead", "()Z"⟩) ∈ jW := List.mem_of_getElem? (i := 253) (by decide +kernel)
theorem wl254 : (Cond.selects "HistoryJudge$History" ⟨"HistoryJudge$History", "hasAbortedRead", "()Z"⟩ ⟨"HistoryJudge$History", "hasAbortedRead", "()Z"⟩) ∈ jW := List.mem_of_getElem? (i := 254) (by decide +kernel)
theorem wl255 : (Cond.code ⟨"HistoryJudge$History", "hasAbortedRead", "()Z"⟩ prog_4_method_14_code 2 (some FieldType.boolean)) ∈ jW := List.mem_of_getElem? (i := 255) (by decide +kernel)
theorem wl256 : (Cond.methodLink "HistoryJudge$History" 72 ⟨"HistoryJudge$History", "isJudgedRead", "(I)Z"⟩) ∈ jW := List.mem_of_getElem? (i := 256) (by decide +kernel)
theorem wl257 : (Cond.instanceMethod ⟨"HistoryJudge$History", "isJudgedRead", "(I)Z"⟩) ∈ jW := List.mem_of_getElem? (i := 257) (by decide +kernel)
theorem wl258 : (Cond.code ⟨"HistoryJudge$History", "isJudgedRead", "(I)Z"⟩ prog_4_method_16_code 2 (some FieldType.boolean)) ∈ jW := List.mem_of_getElem? (i := 258) (by decide +kernel)
theorem wl259 : (Cond.methodLink "HistoryJudge$History" 60 ⟨"HistoryJudge$History", "isCommitted", "(I)Z"⟩) ∈ jW := List.mem_of_getElem? (i := 259) (by decide +kernel)
theorem wl260 : (Cond.methodLink "HistoryJudge" 117 ⟨"HistoryJudge$History", "hasUnfinishedRead", "()Z"⟩) ∈ jW := List.mem_of_getElem? (i := 260) (by decide +kernel)
theorem wl261 : (Cond.instanceMethod ⟨"HistoryJudge$History", "hasUnfinishedRead", "()Z"⟩) ∈ jW := List.mem_of_getElem? (i := 261) (by decide +kernel)
theorem wl262 : (Cond.selects "HistoryJudge$History" ⟨"HistoryJudge$History", "hasUnfinishedRead", "()Z"⟩ ⟨"HistoryJudge$History", "hasUnfinishedRead", "()Z"⟩) ∈ jW := List.mem_of_getElem? (i := 262) (by decide +kernel)
theorem wl263 : (Cond.code ⟨"HistoryJudge$History", "hasUnfinishedRead", "()Z"⟩ prog_4_method_15_code 2 (some FieldType.boolean)) ∈ jW := List.mem_of_getElem? (i := 263) (by decide +kernel)
theorem wl264 : (Cond.methodLink "HistoryJudge$History" 75 ⟨"HistoryJudge$History", "isOfAnotherCommitted", "(I)Z"⟩) ∈ jW := List.mem_of_getElem? (i := 264) (by decide +kernel)
theorem wl265 : (Cond.instanceMethod ⟨"HistoryJudge$History", "isOfAnotherCommitted", "(I)Z"⟩) ∈ jW := List.mem_of_getElem? (i := 265) (by decide +kernel)
theorem wl266 : (Cond.code ⟨"HistoryJudge$History", "isOfAnotherCommitted", "(I)Z"⟩ prog_4_method_17_code 3 (some FieldType.boolean)) ∈ jW := List.mem_of_getElem? (i := 266) (by decide +kernel)
theorem wl267 : (Cond.methodLink "HistoryJudge$History" 78 ⟨"HistoryJudge$History", "isFinal", "(I)Z"⟩) ∈ jW := List.mem_of_getElem? (i := 267) (by decide +kernel)
theorem wl268 : (Cond.instanceMethod ⟨"HistoryJudge$History", "isFinal", "(I)Z"⟩) ∈ jW := List.mem_of_getElem? (i := 268) (by decide +kernel)
theorem wl269 : (Cond.selects "HistoryJudge$History" ⟨"HistoryJudge$History", "isFinal", "(I)Z"⟩ ⟨"HistoryJudge$History", "isFinal", "(I)Z"⟩) ∈ jW := List.mem_of_getElem? (i := 269) (by decide +kernel)
theorem wl270 : (Cond.code ⟨"HistoryJudge$History", "isFinal", "(I)Z"⟩ prog_4_method_11_code 2 (some FieldType.boolean)) ∈ jW := List.mem_of_getElem? (i := 270) (by decide +kernel)
theorem wl271 : (Cond.methodLink "HistoryJudgeLaw" 73 ⟨"HistoryJudge", "level", "()I"⟩) ∈ jW := List.mem_of_getElem? (i := 271) (by decide +kernel)
theorem wl272 : (Cond.instanceMethod ⟨"HistoryJudge", "level", "()I"⟩) ∈ jW := List.mem_of_getElem? (i := 272) (by decide +kernel)
theorem wl273 : (Cond.selects "HistoryJudge" ⟨"HistoryJudge", "level", "()I"⟩ ⟨"HistoryJudge", "level", "()I"⟩) ∈ jW := List.mem_of_getElem? (i := 273) (by decide +kernel)
theorem wl274 : (Cond.code ⟨"HistoryJudge", "level", "()I"⟩ prog_1_method_10_code 2 (some FieldType.int)) ∈ jW := List.mem_of_getElem? (i := 274) (by decide +kernel)
theorem wl275 : (Cond.methodLink "HistoryJudge" 120 ⟨"HistoryJudge", "flaws", "()I"⟩) ∈ jW := List.mem_of_getElem? (i := 275) (by decide +kernel)
theorem wl276 : (Cond.methodLink "HistoryJudgeLaw" 77 ⟨"HistoryJudge", "cycle", "(I)I"⟩) ∈ jW := List.mem_of_getElem? (i := 276) (by decide +kernel)
theorem wl277 : (Cond.instanceMethod ⟨"HistoryJudge", "cycle", "(I)I"⟩) ∈ jW := List.mem_of_getElem? (i := 277) (by decide +kernel)
theorem wl278 : (Cond.selects "HistoryJudge" ⟨"HistoryJudge", "cycle", "(I)I"⟩ ⟨"HistoryJudge", "cycle", "(I)I"⟩) ∈ jW := List.mem_of_getElem? (i := 278) (by decide +kernel)
theorem wl279 : (Cond.code ⟨"HistoryJudge", "cycle", "(I)I"⟩ prog_1_method_11_code 2 (some FieldType.int)) ∈ jW := List.mem_of_getElem? (i := 279) (by decide +kernel)
theorem wl280 : (Cond.methodLink "HistoryJudgeLaw" 81 ⟨"HistoryJudge", "step", "(II)I"⟩) ∈ jW := List.mem_of_getElem? (i := 280) (by decide +kernel)
theorem wl281 : (Cond.instanceMethod ⟨"HistoryJudge", "step", "(II)I"⟩) ∈ jW := List.mem_of_getElem? (i := 281) (by decide +kernel)
theorem wl282 : (Cond.selects "HistoryJudge" ⟨"HistoryJudge", "step", "(II)I"⟩ ⟨"HistoryJudge", "step", "(II)I"⟩) ∈ jW := List.mem_of_getElem? (i := 282) (by decide +kernel)
theorem wl283 : (Cond.code ⟨"HistoryJudge", "step", "(II)I"⟩ prog_1_method_12_code 4 (some FieldType.int)) ∈ jW := List.mem_of_getElem? (i := 283) (by decide +kernel)
theorem wl284 : (Cond.methodLink "HistoryJudge" 124 ⟨"HistoryJudge", "cycle", "(I)I"⟩) ∈ jW := List.mem_of_getElem? (i := 284) (by decide +kernel)
theorem wl285 : (Cond.methodLink "HistoryJudgeLaw" 85 ⟨"HistoryJudge", "serial", "()Z"⟩) ∈ jW := List.mem_of_getElem? (i := 285) (by decide +kernel)
theorem wl286 : (Cond.instanceMethod ⟨"HistoryJudge", "serial", "()Z"⟩) ∈ jW := List.mem_of_getElem? (i := 286) (by decide +kernel)
theorem wl287 : (Cond.selects "HistoryJudge" ⟨"HistoryJudge", "serial", "()Z"⟩ ⟨"HistoryJudge", "serial", "()Z"⟩) ∈ jW := List.mem_of_getElem? (i := 287) (by decide +kernel)
theorem wl288 : (Cond.code ⟨"HistoryJudge", "serial", "()Z"⟩ prog_1_method_13_code 1 (some FieldType.boolean)) ∈ jW := List.mem_of_getElem? (i := 288) (by decide +kernel)
theorem wl289 : (Cond.methodLink "HistoryJudge" 131 ⟨"HistoryJudge$SerialSearch", "explore", "(LHistoryJudge$History;)V"⟩) ∈ jW := List.mem_of_getElem? (i := 289) (by decide +kernel)
theorem wl290 : (Cond.instanceMethod ⟨"HistoryJudge$SerialSearch", "explore", "(LHistoryJudge$History;)V"⟩) ∈ jW := List.mem_of_getElem? (i := 290) (by decide +kernel)
theorem wl291 : (Cond.selects "HistoryJudge$SerialSearch" ⟨"HistoryJudge$SerialSearch", "explore", "(LHistoryJudge$History;)V"⟩ ⟨"HistoryJudge$SerialSearch", "explore", "(LHistoryJudge$History;)V"⟩) ∈ jW := List.mem_of_getElem? (i := 291) (by decide +kernel)
theorem wl292 : (Cond.code ⟨"HistoryJudge$SerialSearch", "explore", "(LHistoryJudge$History;)V"⟩ prog_5_method_2_code 4 none) ∈ jW := List.mem_of_getElem? (i := 292) (by decide +kernel)
theorem wl293 : (Cond.methodLink "HistoryJudge$SerialSearch" 23 ⟨"HistoryJudge$SerialSearch", "takeReads", "(LHistoryJudge$History;)V"⟩) ∈ jW := List.mem_of_getElem? (i := 293) (by decide +kernel)
theorem wl294 : (Cond.instanceMethod ⟨"HistoryJudge$SerialSearch", "takeReads", "(LHistoryJudge$History;)V"⟩) ∈ jW := List.mem_of_getElem? (i := 294) (by decide +kernel)
theorem wl295 : (Cond.code ⟨"HistoryJudge$SerialSearch", "takeReads", "(LHistoryJudge$History;)V"⟩ prog_5_method_5_code 3 none) ∈ jW := List.mem_of_getElem? (i := 295) (by decide +kernel)
theorem wl296 : (Cond.methodLink "HistoryJudge$SerialSearch" 58 ⟨"HistoryJudge$History", "committedSet", "()I"⟩) ∈ jW := List.mem_of_getElem? (i := 296) (by decide +kernel)
theorem wl297 : (Cond.instanceMethod ⟨"HistoryJudge$History", "committedSet", "()I"⟩) ∈ jW := List.mem_of_getElem? (i := 297) (by decide +kernel)
theorem wl298 : (Cond.selects "HistoryJudge$History" ⟨"HistoryJudge$History", "committedSet", "()I"⟩ ⟨"HistoryJudge$History", "committedSet", "()I"⟩) ∈ jW := List.mem_of_getElem? (i := 298) (by decide +kernel)
theorem wl299 : (Cond.code ⟨"HistoryJudge$History", "committedSet", "()I"⟩ prog_4_method_9_code 3 (some FieldType.int)) ∈ jW := List.mem_of_getElem? (i := 299) (by decide +kernel)
theorem wl300 : (Cond.methodLink "HistoryJudge$SerialSearch" 64 ⟨"java/util/Arrays", "fill", "([II)V"⟩) ∈ jW := List.mem_of_getElem? (i := 300) (by decide +kernel)
theorem wl301 : (Cond.methodLink "HistoryJudge$SerialSearch" 76 ⟨"HistoryJudge$History", "isCommitted", "(I)Z"⟩) ∈ jW := List.mem_of_getElem? (i := 301) (by decide +kernel)
theorem wl302 : (Cond.methodLink "HistoryJudge$SerialSearch" 79 ⟨"HistoryJudge$SerialSearch", "takeRead", "(LHistoryJudge$History;I)V"⟩) ∈ jW := List.mem_of_getElem? (i := 302) (by decide +kernel)
theorem wl303 : (Cond.instanceMethod ⟨"HistoryJudge$SerialSearch", "takeRead", "(LHistoryJudge$History;I)V"⟩) ∈ jW := List.mem_of_getElem? (i := 303) (by decide +kernel)
theorem wl304 : (Cond.code ⟨"HistoryJudge$SerialSearch", "takeRead", "(LHistoryJudge$History;I)V"⟩ prog_5_method_6_code 4 none) ∈ jW := List.mem_of_getElem? (i := 304) (by decide +kernel)
theorem wl305 : (Cond.methodLink "HistoryJudge$SerialSearch" 92 ⟨"HistoryJudge$SerialSearch", "takeFirstRead", "(LHistoryJudge$History;II)V"⟩) ∈ jW := List.mem_of_getElem? (i := 305) (by decide +kernel)
theorem wl306 : (Cond.instanceMethod ⟨"HistoryJudge$SerialSearch", "takeFirstRead", "(LHistoryJudge$History;II)V"⟩) ∈ jW := List.mem_of_getElem? (i := 306) (by decide +kernel)
theorem wl307 : (Cond.code ⟨"HistoryJudge$SerialSearch", "takeFirstRead", "(LHistoryJudge$History;II)V"⟩ prog_5_method_7_code 5 none) ∈ jW := List.mem_of_getElem? (i := 307) (by decide +kernel)
theorem wl308 : (Cond.methodLink "HistoryJudge$SerialSearch" 109 ⟨"HistoryJudge$History", "hasWritten", "(II)Z"⟩) ∈ jW := List.mem_of_getElem? (i := 308) (by decide +kernel)
theorem wl309 : (Cond.instanceMethod ⟨"HistoryJudge$History", "hasWritten", "(II)Z"⟩) ∈ jW := List.mem_of_getElem? (i := 309) (by decide +kernel)
theorem wl310 : (Cond.selects "HistoryJudge$History" ⟨"HistoryJudge$History", "hasWritten", "(II)Z"⟩ ⟨"HistoryJudge$History", "hasWritten", "(II)Z"⟩) ∈ jW := List.mem_of_getElem? (i := 310) (by decide +kernel)
theorem wl311 : (Cond.code ⟨"HistoryJudge$History", "hasWritten", "(II)Z"⟩ prog_4_method_10_code 3 (some FieldType.boolean)) ∈ jW := List.mem_of_getElem? (i := 311) (by decide +kernel)
theorem wl312 : (Cond.methodLink "HistoryJudge$SerialSearch" 99 ⟨"HistoryJudge$History", "isFinal", "(I)Z"⟩) ∈ jW := List.mem_of_getElem? (i := 312) (by decide +kernel)
theorem wl313 : (Cond.methodLink "HistoryJudge$SerialSearch" 102 ⟨"HistoryJudge$SerialSearch", "takeForeignRead", "(LHistoryJudge$History;II)V"⟩) ∈ jW := List.mem_of_getElem? (i := 313) (by decide +kernel)
theorem wl314 : (Cond.instanceMethod ⟨"HistoryJudge$SerialSearch", "takeForeignRead", "(LHistoryJudge$History;II)V"⟩) ∈ jW := List.mem_of_getElem? (i := 314) (by decide +kernel)
theorem wl315 : (Cond.code ⟨"HistoryJudge$SerialSearch", "takeForeignRead", "(LHistoryJudge$History;II)V"⟩ prog_5_method_8_code 7 none) ∈ jW := List.mem_of_getElem? (i := 315) (by decide +kernel)
theorem wl316 : (Cond.methodLink "HistoryJudge$SerialSearch" 35 ⟨"HistoryJudge$SerialSearch", "followers", "(I)I"⟩) ∈ jW := List.mem_of_getElem? (i := 316) (by decide +kernel)
theorem wl317 : (Cond.instanceMethod ⟨"HistoryJudge$SerialSearch", "followers", "(I)I"⟩) ∈ jW := List.mem_of_getElem? (i := 317) (by decide +kernel)
theorem wl318 : (Cond.code ⟨"HistoryJudge$SerialSearch", "followers", "(I)I"⟩ prog_5_method_9_code 5 (some FieldType.int)) ∈ jW := List.mem_of_getElem? (i := 318) (by decide +kernel)
theorem wl319 : (Cond.methodLink "HistoryJudge$SerialSearch" 112 ⟨"HistoryJudge$SerialSearch", "mayFollow", "(II)Z"⟩) ∈ jW := List.mem_of_getElem? (i := 319) (by decide +kernel)
theorem wl320 : (Cond.instanceMethod ⟨"HistoryJudge$SerialSearch", "mayFollow", "(II)Z"⟩) ∈ jW := List.mem_of_getElem? (i := 320) (by decide +kernel)
theorem wl321 : (Cond.code ⟨"HistoryJudge$SerialSearch", "mayFollow", "(II)Z"⟩ prog_5_method_10_code 4 (some FieldType.boolean)) ∈ jW := List.mem_of_getElem? (i := 321) (by decide +kernel)
theorem wl322 : (Cond.methodLink "HistoryJudge$SerialSearch" 39 ⟨"HistoryJudge$SerialSearch", "canBeEnded", "(I)Z"⟩) ∈ jW := List.mem_of_getElem? (i := 322) (by decide +kernel)
theorem wl323 : (Cond.instanceMethod ⟨"HistoryJudge$SerialSearch", "canBeEnded", "(I)Z"⟩) ∈ jW := List.mem_of_getElem? (i := 323) (by decide +kernel)
theorem wl324 : (Cond.code ⟨"HistoryJudge$SerialSearch", "canBeEnded", "(I)Z"⟩ prog_5_method_11_code 2 (some FieldType.boolean)) ∈ jW := List.mem_of_getElem? (i := 324) (by decide +kernel)
theorem wl325 : (Cond.methodLink "HistoryJudge" 134 ⟨"HistoryJudge$SerialSearch", "isPossible", "()Z"⟩) ∈ jW := List.mem_of_getElem? (i := 325) (by decide +kernel)
theorem wl326 : (Cond.instanceMethod ⟨"HistoryJudge$SerialSearch", "isPossible", "()Z"⟩) ∈ jW := List.mem_of_getElem? (i := 326) (by decide +kernel)
theorem wl327 : (Cond.selects "HistoryJudge$SerialSearch" ⟨"HistoryJudge$SerialSearch", "isPossible", "()Z"⟩ ⟨"HistoryJudge$SerialSearch", "isPossible", "()Z"⟩) ∈ jW := List.mem_of_getElem? (i := 327) (by decide +kernel)
theorem wl328 : (Cond.code ⟨"HistoryJudge$SerialSearch", "isPossible", "()Z"⟩ prog_5_method_3_code 1 (some FieldType.boolean)) ∈ jW := List.mem_of_getElem? (i := 328) (by decide +kernel)
theorem wl329 : (Cond.methodLink "HistoryJudgeLaw" 90 ⟨"HistoryJudge", "place", "(I)I"⟩) ∈ jW := List.mem_of_getElem? (i := 329) (by decide +kernel)
theorem wl330 : (Cond.instanceMethod ⟨"HistoryJudge", "place", "(I)I"⟩) ∈ jW := List.mem_of_getElem? (i := 330) (by decide +kernel)
theorem wl331 : (Cond.selects "HistoryJudge" ⟨"HistoryJudge", "place", "(I)I"⟩ ⟨"HistoryJudge", "place", "(I)I"⟩) ∈ jW := List.mem_of_getElem? (i := 331) (by decide +kernel)
theorem wl332 : (Cond.code ⟨"HistoryJudge", "place", "(I)I"⟩ prog_1_method_14_code 2 (some FieldType.int)) ∈ jW := List.mem_of_getElem? (i := 332) (by decide +kernel)
theorem wl333 : (Cond.methodLink "HistoryJudge" 137 ⟨"HistoryJudge$SerialSearch", "transactionAt", "(I)I"⟩) ∈ jW := List.mem_of_getElem? (i := 333) (by decide +kernel)
theorem wl334 : (Cond.instanceMethod ⟨"HistoryJudge$SerialSearch", "transactionAt", "(I)I"⟩) ∈ jW := List.mem_of_getElem? (i := 334) (by decide +kernel)
theorem wl335 : (Cond.selects "HistoryJudge$SerialSearch" ⟨"HistoryJudge$SerialSearch", "transactionAt", "(I)I"⟩ ⟨"HistoryJudge$SerialSearch", "transactionAt", "(I)I"⟩) ∈ jW := List.mem_of_getElem? (i := 335) (by decide +kernel)
theorem wl336 : (Cond.code ⟨"HistoryJudge$SerialSearch", "transactionAt", "(I)I"⟩ prog_5_method_4_code 4 (some FieldType.int)) ∈ jW := List.mem_of_getElem? (i := 336) (by decide +kernel)
theorem wl337 : (Cond.methodLink "HistoryJudge$SerialSearch" 43 ⟨"HistoryJudge$SerialSearch", "isPossible", "()Z"⟩) ∈ jW := List.mem_of_getElem? (i := 337) (by decide +kernel)
theorem wl338 : (Cond.methodLink "HistoryJudge$SerialSearch" 47 ⟨"java/lang/Integer", "bitCount", "(I)I"⟩) ∈ jW := List.mem_of_getElem? (i := 338) (by decide +kernel)
theorem wl339 : (Cond.static ⟨"java/lang/Integer", "bitCount", "(I)I"⟩) ∈ jW := List.mem_of_getElem? (i := 339) (by decide +kernel)
theorem wl340 : (Cond.code ⟨"java/lang/Integer", "bitCount", "(I)I"⟩ prog_11_method_49_code 1 (some FieldType.int)) ∈ jW := List.mem_of_getElem? (i := 340) (by decide +kernel)
theorem wl341 : (Cond.constant "java/lang/Integer" 265 (1431655765 : Int32)) ∈ jW := List.mem_of_getElem? (i := 341) (by decide +kernel)
theorem wl342 : (Cond.constant "java/lang/Integer" 266 (858993459 : Int32)) ∈ jW := List.mem_of_getElem? (i := 342) (by decide +kernel)
theorem wl343 : (Cond.constant "java/lang/Integer" 267 (252645135 : Int32)) ∈ jW := List.mem_of_getElem? (i := 343) (by decide +kernel)
theorem wl344 : (Cond.methodLink "HistoryJudgeLaw" 94 ⟨"HistoryJudge", "beginnings", "()I"⟩) ∈ jW := List.mem_of_getElem? (i := 344) (by decide +kernel)
theorem wl345 : (Cond.instanceMethod ⟨"HistoryJudge", "beginnings", "()I"⟩) ∈ jW := List.mem_of_getElem? (i := 345) (by decide +kernel)
theorem wl346 : (Cond.selects "HistoryJudge" ⟨"HistoryJudge", "beginnings", "()I"⟩ ⟨"HistoryJudge", "beginnings", "()I"⟩) ∈ jW := List.mem_of_getElem? (i := 346) (by decide +kernel)
theorem wl347 : (Cond.code ⟨"HistoryJudge", "beginnings", "()I"⟩ prog_1_method_15_code 1 (some FieldType.int)) ∈ jW := List.mem_of_getElem? (i := 347) (by decide +kernel)
theorem wl348 : (Cond.methodLink "HistoryJudge" 143 ⟨"java/lang/Integer", "bitCount", "(I)I"⟩) ∈ jW := List.mem_of_getElem? (i := 348) (by decide +kernel)
theorem wl349 : (Cond.methodLink "HistoryJudgeLaw" 98 ⟨"HistoryJudge", "clear", "()I"⟩) ∈ jW := List.mem_of_getElem? (i := 349) (by decide +kernel)
theorem wl350 : (Cond.instanceMethod ⟨"HistoryJudge", "clear", "()I"⟩) ∈ jW := List.mem_of_getElem? (i := 350) (by decide +kernel)
theorem wl351 : (Cond.selects "HistoryJudge" ⟨"HistoryJudge", "clear", "()I"⟩ ⟨"HistoryJudge", "clear", "()I"⟩) ∈ jW := List.mem_of_getElem? (i := 351) (by decide +kernel)
theorem wl352 : (Cond.code ⟨"HistoryJudge", "clear", "()I"⟩ prog_1_method_16_code 2 (some FieldType.int)) ∈ jW := List.mem_of_getElem? (i := 352) (by decide +kernel)
theorem wl353 : (Cond.methodLink "HistoryJudge" 148 ⟨"HistoryJudge$History", "reset", "()V"⟩) ∈ jW := List.mem_of_getElem? (i := 353) (by decide +kernel)
theorem wl354 : (Cond.methodLink "HistoryJudgeLaw" 33 ⟨"HistoryJudgeLaw", "write", "(LHistoryJudge;II[J)I"⟩) ∈ jW := List.mem_of_getElem? (i := 354) (by decide +kernel)
theorem wl355 : (Cond.static ⟨"HistoryJudgeLaw", "write", "(LHistoryJudge;II[J)I"⟩) ∈ jW := List.mem_of_getElem? (i := 355) (by decide +kernel)
theorem wl356 : (Cond.classLink "HistoryJudgeLaw" 13 "java/lang/IllegalArgumentException") ∈ jW := List.mem_of_getElem? (i := 356) (by decide +kernel)
theorem wl357 : (Cond.classLink "HistoryJudgeLaw" 15 "java/lang/IllegalStateException") ∈ jW := List.mem_of_getElem? (i := 357) (by decide +kernel)
theorem wl358 : (Cond.classLink "HistoryJudgeLaw" 17 "java/lang/UnsupportedOperationException") ∈ jW := List.mem_of_getElem? (i := 358) (by decide +kernel)
theorem wl359 : (Cond.methodLink "HistoryJudgeLaw" 7 ⟨"HistoryJudge", "write", "(II)I"⟩) ∈ jW := List.mem_of_getElem? (i := 359) (by decide +kernel)
theorem wl360 : (Cond.instanceMethod ⟨"HistoryJudge", "write", "(II)I"⟩) ∈ jW := List.mem_of_getElem? (i := 360) (by decide +kernel)
theorem wl361 : (Cond.selects "HistoryJudge" ⟨"HistoryJudge", "write", "(II)I"⟩ ⟨"HistoryJudge", "write", "(II)I"⟩) ∈ jW := List.mem_of_getElem? (i := 361) (by decide +kernel)
theorem wl362 : (Cond.code ⟨"HistoryJudge", "write", "(II)I"⟩ prog_1_method_2_code 3 (some FieldType.int)) ∈ jW := List.mem_of_getElem? (i := 362) (by decide +kernel)
theorem wl363 : (Cond.classLink "HistoryJudge" 44 "java/lang/IllegalArgumentException") ∈ jW := List.mem_of_getElem? (i := 363) (by decide +kernel)
theorem wl364 : (Cond.instantiable "java/lang/IllegalArgumentException" 6) ∈ jW := List.mem_of_getElem? (i := 364) (by decide +kernel)
theorem wl365 : (Cond.selects "java/lang/IllegalArgumentException" ⟨"java/lang/Throwable", "fillInStackTrace", "(I)Ljava/lang/Throwable;"⟩ ⟨"java/lang/Throwable", "fillInStackTrace", "(I)Ljava/lang/Throwable;"⟩) ∈ jW := List.mem_of_getElem? (i := 365) (by decide +kernel)
theorem wl366 : (Cond.selects "java/lang/IllegalArgumentException" ⟨"java/lang/Throwable", "fillInStackTrace", "()Ljava/lang/Throwable;"⟩ ⟨"java/lang/Throwable", "fillInStackTrace", "()Ljava/lang/Throwable;"⟩) ∈ jW := List.mem_of_getElem? (i := 366) (by decide +kernel)
theorem wl367 : (Cond.lays "java/lang/IllegalArgumentException" "java/lang/Throwable" "cause" "Ljava/lang/Throwable;") ∈ jW := List.mem_of_getElem? (i := 367) (by decide +kernel)
theorem wl368 : (Cond.lays "java/lang/Throwable" "java/lang/Throwable" "cause" "Ljava/lang/Throwable;") ∈ jW := List.mem_of_getElem? (i := 368) (by decide +kernel)
theorem wl369 : (Cond.lays "java/lang/IllegalArgumentException" "java/lang/Throwable" "stackTrace" "[Ljava/lang/StackTraceElement;") ∈ jW := List.mem_of_getElem? (i := 369) (by decide +kernel)
theorem wl370 : (Cond.lays "java/lang/Throwable" "java/lang/Throwable" "stackTrace" "[Ljava/lang/StackTraceElement;") ∈ jW := List.mem_of_getElem? (i := 370) (by decide +kernel)
theorem wl371 : (Cond.lays "java/lang/IllegalArgumentException" "java/lang/Throwable" "suppressedExceptions" "Ljava/util/List;") ∈ jW := List.mem_of_getElem? (i := 371) (by decide +kernel)
theorem wl372 : (Cond.lays "java/lang/Throwable" "java/lang/Throwable" "suppressedExceptions" "Ljava/util/List;") ∈ jW := List.mem_of_getElem? (i := 372) (by decide +kernel)
theorem wl373 : (Cond.lays "java/lang/IllegalArgumentException" "java/lang/Throwable" "detailMessage" "Ljava/lang/String;") ∈ jW := List.mem_of_getElem? (i := 373) (by decide +kernel)
theorem wl374 : (Cond.lays "java/lang/Throwable" "java/lang/Throwable" "detailMessage" "Ljava/lang/String;") ∈ jW := List.mem_of_getElem? (i := 374) (by decide +kernel)
theorem wl375 : (Cond.lays "java/lang/IllegalArgumentException" "java/lang/Throwable" "backtrace" "Ljava/lang/Object;") ∈ jW := List.mem_of_getElem? (i := 375) (by decide +kernel)
theorem wl376 : (Cond.lays "java/lang/Throwable" "java/lang/Throwable" "backtrace" "Ljava/lang/Object;") ∈ jW := List.mem_of_getElem? (i := 376) (by decide +kernel)
theorem wl377 : (Cond.fieldLink "java/lang/Throwable" 198 "java/lang/Throwable" "backtrace" "Ljava/lang/Object;") ∈ jW := List.mem_of_getElem? (i := 377) (by decide +kernel)
theorem wl378 : (Cond.instanceMethod ⟨"java/lang/Throwable", "<init>", "()V"⟩) ∈ jW := List.mem_of_getElem? (i := 378) (by decide +kernel)
theorem wl379 : (Cond.code ⟨"java/lang/Throwable", "<init>", "()V"⟩ prog_13_method_1_code 1 none) ∈ jW := List.mem_of_getElem? (i := 379) (by decide +kernel)
theorem wl380 : (Cond.methodLink "java/lang/Throwable" 1 ⟨"java/lang/Object", "<init>", "()V"⟩) ∈ jW := List.mem_of_getElem? (i := 380) (by decide +kernel)
theorem wl381 : (Cond.fieldLink "java/lang/Throwable" 13 "java/lang/Throwable" "UNASSIGNED_STACK" "[Ljava/lang/StackTraceElement;") ∈ jW := List.mem_of_getElem? (i := 381) (by decide +kernel)
theorem wl382 : (Cond.fieldLink "java/lang/Throwable" 20 "java/lang/Throwable" "SUPPRESSED_SENTINEL" "Ljava/util/List;") ∈ jW := List.mem_of_getElem? (i := 382) (by decide +kernel)
theorem wl383 : (Cond.methodLink "java/lang/Throwable" 27 ⟨"java/lang/Throwable", "fillInStackTrace", "()Ljava/lang/Throwable;"⟩) ∈ jW := List.mem_of_getElem? (i := 383) (by decide +kernel)
theorem wl384 : (Cond.instanceMethod ⟨"java/lang/Throwable", "fillInStackTrace", "()Ljava/lang/Throwable;"⟩) ∈ jW := List.mem_of_getElem? (i := 384) (by decide +kernel)
theorem wl385 : (Cond.selects "java/lang/IllegalStateException" ⟨"java/lang/Throwable", "fillInStackTrace", "()Ljava/lang/Throwable;"⟩ ⟨"java/lang/Throwable", "fillInStackTrace", "()Ljava/lang/Throwable;"⟩) ∈ jW := List.mem_of_getElem? (i := 385) (by decide +kernel)
theorem wl386 : (Cond.selects "java/lang/UnsupportedOperationException" ⟨"java/lang/Throwable", "fillInStackTrace", "()Ljava/lang/Throwable;"⟩ ⟨"java/lang/Throwable", "fillInStackTrace", "()Ljava/lang/Throwable;"⟩) ∈ jW := List.mem_of_getElem? (i := 386) (by decide +kernel)
theorem wl387 : (Cond.selects "java/util/NoSuchElementException" ⟨"java/lang/Throwable", "fillInStackTrace", "()Ljava/lang/Throwable;"⟩ ⟨"java/lang/Throwable", "fillInStackTrace", "()Ljava/lang/Throwable;"⟩) ∈ jW := List.mem_of_getElem? (i := 387) (by decide +kernel)
theorem wl388 : (Cond.methodLink "java/lang/Throwable" 202 ⟨"java/lang/Throwable", "fillInStackTrace", "(I)Ljava/lang/Throwable;"⟩) ∈ jW := List.mem_of_getElem? (i := 388) (by decide +kernel)
theorem wl389 : (Cond.instanceMethod ⟨"java/lang/Throwable", "fillInStackTrace", "(I)Ljava/lang/Throwable;"⟩) ∈ jW := List.mem_of_getElem? (i := 389) (by decide +kernel)
theorem wl390 : (Cond.instantiable "java/lang/Throwable" 6) ∈ jW := List.mem_of_getElem? (i := 390) (by decide +kernel)
theorem wl391 : (Cond.methodLink "HistoryJudge" 46 ⟨"java/lang/IllegalArgumentException", "<init>", "()V"⟩) ∈ jW := List.mem_of_getElem? (i := 391) (by decide +kernel)
theorem wl392 : (Cond.instanceMethod ⟨"java/lang/IllegalArgumentException", "<init>", "()V"⟩) ∈ jW := List.mem_of_getElem? (i := 392) (by decide +kernel)
theorem wl393 : (Cond.code ⟨"java/lang/IllegalArgumentException", "<init>", "()V"⟩ prog_9_method_1_code 1 none) ∈ jW := List.mem_of_getElem? (i := 393) (by decide +kernel)
theorem wl394 : (Cond.methodLink "java/lang/IllegalArgumentException" 1 ⟨"java/lang/RuntimeException", "<init>", "()V"⟩) ∈ jW := List.mem_of_getElem? (i := 394) (by decide +kernel)
theorem wl395 : (Cond.instanceMethod ⟨"java/lang/RuntimeException", "<init>", "()V"⟩) ∈ jW := List.mem_of_getElem? (i := 395) (by decide +kernel)
theorem wl396 : (Cond.code ⟨"java/lang/RuntimeException", "<init>", "()V"⟩ prog_12_method_1_code 1 none) ∈ jW := List.mem_of_getElem? (i := 396) (by decide +kernel)
theorem wl397 : (Cond.methodLink "java/lang/RuntimeException" 1 ⟨"java/lang/Exception", "<init>", "()V"⟩) ∈ jW := List.mem_of_getElem? (i := 397) (by decide +kernel)
theorem wl398 : (Cond.instanceMethod ⟨"java/lang/Exception", "<init>", "()V"⟩) ∈ jW := List.mem_of_getElem? (i := 398) (by decide +kernel)
theorem wl399 : (Cond.code ⟨"java/lang/Exception", "<init>", "()V"⟩ prog_8_method_1_code 1 none) ∈ jW := List.mem_of_getElem? (i := 399) (by decide +kernel)
theorem wl400 : (Cond.methodLink "java/lang/Exception" 1 ⟨"java/lang/Throwable", "<init>", "()V"⟩) ∈ jW := List.mem_of_getElem? (i := 400) (by decide +kernel)
theorem wl401 : (Cond.fieldLink "java/lang/Throwable" 7 "java/lang/Throwable" "cause" "Ljava/lang/Throwable;") ∈ jW := List.mem_of_getElem? (i := 401) (by decide +kernel)
theorem wl402 : (Cond.fieldLink "java/lang/Throwable" 17 "java/lang/Throwable" "stackTrace" "[Ljava/lang/StackTraceElement;") ∈ jW := List.mem_of_getElem? (i := 402) (by decide +kernel)
theorem wl403 : (Cond.fieldLink "java/lang/Throwable" 24 "java/lang/Throwable" "suppressedExceptions" "Ljava/util/List;") ∈ jW := List.mem_of_getElem? (i := 403) (by decide +kernel)
theorem wl404 : (Cond.lays "java/lang/IllegalArgumentException" "java/lang/Throwable" "depth" "I") ∈ jW := List.mem_of_getElem? (i := 404) (by decide +kernel)
theorem wl405 : (Cond.methodLink "HistoryJudge" 47 ⟨"HistoryJudge$History", "hasEnded", "(I)Z"⟩) ∈ jW := List.mem_of_getElem? (i := 405) (by decide +kernel)
theorem wl406 : (Cond.instanceMethod ⟨"HistoryJudge$History", "hasEnded", "(I)Z"⟩) ∈ jW := List.mem_of_getElem? (i := 406) (by decide +kernel)
theorem wl407 : (Cond.selects "HistoryJudge$History" ⟨"HistoryJudge$History", "hasEnded", "(I)Z"⟩ ⟨"HistoryJudge$History", "hasEnded", "(I)Z"⟩) ∈ jW := List.mem_of_getElem? (i := 407) (by decide +kernel)
theorem wl408 : (Cond.code ⟨"HistoryJudge$History", "hasEnded", "(I)Z"⟩ prog_4_method_3_code 2 (some FieldType.boolean)) ∈ jW := List.mem_of_getElem? (i := 408) (by decide +kernel)
theorem wl409 : (Cond.classLink "HistoryJudge" 50 "java/lang/IllegalStateException") ∈ jW := List.mem_of_getElem? (i := 409) (by decide +kernel)
theorem wl410 : (Cond.instantiable "java/lang/IllegalStateException" 6) ∈ jW := List.mem_of_getElem? (i := 410) (by decide +kernel)
theorem wl411 : (Cond.selects "java/lang/IllegalStateException" ⟨"java/lang/Throwable", "fillInStackTrace", "(I)Ljava/lang/Throwable;"⟩ ⟨"java/lang/Throwable", "fillInStackTrace", "(I)Ljava/lang/Throwable;"⟩) ∈ jW := List.mem_of_getElem? (i := 411) (by decide +kernel)
theorem wl412 : (Cond.lays "java/lang/IllegalStateException" "java/lang/Throwable" "cause" "Ljava/lang/Throwable;") ∈ jW := List.mem_of_getElem? (i := 412) (by decide +kernel)
theorem wl413 : (Cond.lays "java/lang/IllegalStateException" "java/lang/Throwable" "stackTrace" "[Ljava/lang/StackTraceElement;") ∈ jW := List.mem_of_getElem? (i := 413) (by decide +kernel)
theorem wl414 : (Cond.lays "java/lang/IllegalStateException" "java/lang/Throwable" "suppressedExceptions" "Ljava/util/List;") ∈ jW := List.mem_of_getElem? (i := 414) (by decide +kernel)
theorem wl415 : (Cond.lays "java/lang/IllegalStateException" "java/lang/Throwable" "detailMessage" "Ljava/lang/String;") ∈ jW := List.mem_of_getElem? (i := 415) (by decide +kernel)
theorem wl416 : (Cond.lays "java/lang/IllegalStateException" "java/lang/Throwable" "backtrace" "Ljava/lang/Object;") ∈ jW := List.mem_of_getElem? (i := 416) (by decide +kernel)
theorem wl417 : (Cond.methodLink "HistoryJudge" 52 ⟨"java/lang/IllegalStateException", "<init>", "()V"⟩) ∈ jW := List.mem_of_getElem? (i := 417) (by decide +kernel)
theorem wl418 : (Cond.instanceMethod ⟨"java/lang/IllegalStateException", "<init>", "()V"⟩) ∈ jW := List.mem_of_getElem? (i := 418) (by decide +kernel)
theorem wl419 : (Cond.code ⟨"java/lang/IllegalStateException", "<init>", "()V"⟩ prog_10_method_1_code 1 none) ∈ jW := List.mem_of_getElem? (i := 419) (by decide +kernel)
theorem wl420 : (Cond.methodLink "java/lang/IllegalStateException" 1 ⟨"java/lang/RuntimeException", "<init>", "()V"⟩) ∈ jW := List.mem_of_getElem? (i := 420) (by decide +kernel)
theorem wl421 : (Cond.lays "java/lang/IllegalStateException" "java/lang/Throwable" "depth" "I") ∈ jW := List.mem_of_getElem? (i := 421) (by decide +kernel)
theorem wl422 : (Cond.classLink "HistoryJudge" 57 "java/lang/UnsupportedOperationException") ∈ jW := List.mem_of_getElem? (i := 422) (by decide +kernel)
theorem wl423 : (Cond.instantiable "java/lang/UnsupportedOperationException" 6) ∈ jW := List.mem_of_getElem? (i := 423) (by decide +kernel)
theorem wl424 : (Cond.selects "java/lang/UnsupportedOperationException" ⟨"java/lang/Throwable", "fillInStackTrace", "(I)Ljava/lang/Throwable;"⟩ ⟨"java/lang/Throwable", "fillInStackTrace", "(I)Ljava/lang/Throwable;"⟩) ∈ jW := List.mem_of_getElem? (i := 424) (by decide +kernel)
theorem wl425 : (Cond.lays "java/lang/UnsupportedOperationException" "java/lang/Throwable" "cause" "Ljava/lang/Throwable;") ∈ jW := List.mem_of_getElem? (i := 425) (by decide +kernel)
theorem wl426 : (Cond.lays "java/lang/UnsupportedOperationException" "java/lang/Throwable" "stackTrace" "[Ljava/lang/StackTraceElement;") ∈ jW := List.mem_of_getElem? (i := 426) (by decide +kernel)
theorem wl427 : (Cond.lays "java/lang/UnsupportedOperationException" "java/lang/Throwable" "suppressedExceptions" "Ljava/util/List;") ∈ jW := List.mem_of_getElem? (i := 427) (by decide +kernel)
theorem wl428 : (Cond.lays "java/lang/UnsupportedOperationException" "java/lang/Throwable" "detailMessage" "Ljava/lang/String;") ∈ jW := List.mem_of_getElem? (i := 428) (by decide +kernel)
theorem wl429 : (Cond.lays "java/lang/UnsupportedOperationException" "java/lang/Throwable" "backtrace" "Ljava/lang/Object;") ∈ jW := List.mem_of_getElem? (i := 429) (by decide +kernel)
theorem wl430 : (Cond.methodLink "HistoryJudge" 59 ⟨"java/lang/UnsupportedOperationException", "<init>", "()V"⟩) ∈ jW := List.mem_of_getElem? (i := 430) (by decide +kernel)
theorem wl431 : (Cond.instanceMethod ⟨"java/lang/UnsupportedOperationException", "<init>", "()V"⟩) ∈ jW := List.mem_of_getElem? (i := 431) (by decide +kernel)
theorem wl432 : (Cond.code ⟨"java/lang/UnsupportedOperationException", "<init>", "()V"⟩ prog_14_method_1_code 1 none) ∈ jW := List.mem_of_getElem? (i := 432) (by decide +kernel)
theorem wl433 : (Cond.methodLink "java/lang/UnsupportedOperationException" 1 ⟨"java/lang/RuntimeException", "<init>", "()V"⟩) ∈ jW := List.mem_of_getElem? (i := 433) (by decide +kernel)
theorem wl434 : (Cond.lays "java/lang/UnsupportedOperationException" "java/lang/Throwable" "depth" "I") ∈ jW := List.mem_of_getElem? (i := 434) (by decide +kernel)
theorem wl435 : (Cond.methodLink "HistoryJudge" 60 ⟨"HistoryJudge$History", "addVersion", "(II)I"⟩) ∈ jW := List.mem_of_getElem? (i := 435) (by decide +kernel)
theorem wl436 : (Cond.instanceMethod ⟨"HistoryJudge$History", "addVersion", "(II)I"⟩) ∈ jW := List.mem_of_getElem? (i := 436) (by decide +kernel)
theorem wl437 : (Cond.selects "HistoryJudge$History" ⟨"HistoryJudge$History", "addVersion", "(II)I"⟩ ⟨"HistoryJudge$History", "addVersion", "(II)I"⟩) ∈ jW := List.mem_of_getElem? (i := 437) (by decide +kernel)
theorem wl438 : (Cond.code ⟨"HistoryJudge$History", "addVersion", "(II)I"⟩ prog_4_method_6_code 4 (some FieldType.int)) ∈ jW := List.mem_of_getElem? (i := 438) (by decide +kernel)
theorem wl439 : (Cond.methodLink "HistoryJudgeLaw" 43 ⟨"HistoryJudgeLaw", "read", "(LHistoryJudge;III[J)I"⟩) ∈ jW := List.mem_of_getElem? (i := 439) (by decide +kernel)
theorem wl440 : (Cond.static ⟨"HistoryJudgeLaw", "read", "(LHistoryJudge;III[J)I"⟩) ∈ jW := List.mem_of_getElem? (i := 440) (by decide +kernel)
theorem wl441 : (Cond.classLink "HistoryJudgeLaw" 23 "java/util/NoSuchElementException") ∈ jW := List.mem_of_getElem? (i := 441) (by decide +kernel)
theorem wl442 : (Cond.methodLink "HistoryJudgeLaw" 19 ⟨"HistoryJudge", "read", "(III)I"⟩) ∈ jW := List.mem_of_getElem? (i := 442) (by decide +kernel)
theorem wl443 : (Cond.instanceMethod ⟨"HistoryJudge", "read", "(III)I"⟩) ∈ jW := List.mem_of_getElem? (i := 443) (by decide +kernel)
theorem wl444 : (Cond.selects "HistoryJudge" ⟨"HistoryJudge", "read", "(III)I"⟩ ⟨"HistoryJudge", "read", "(III)I"⟩) ∈ jW := List.mem_of_getElem? (i := 444) (by decide +kernel)
theorem wl445 : (Cond.code ⟨"HistoryJudge", "read", "(III)I"⟩ prog_1_method_3_code 4 (some FieldType.int)) ∈ jW := List.mem_of_getElem? (i := 445) (by decide +kernel)
theorem wl446 : (Cond.methodLink "HistoryJudge" 64 ⟨"HistoryJudge$History", "hasVersion", "(II)Z"⟩) ∈ jW := List.mem_of_getElem? (i := 446) (by decide +kernel)
theorem wl447 : (Cond.instanceMethod ⟨"HistoryJudge$History", "hasVersion", "(II)Z"⟩) ∈ jW := List.mem_of_getElem? (i := 447) (by decide +kernel)
theorem wl448 : (Cond.selects "HistoryJudge$History" ⟨"HistoryJudge$History", "hasVersion", "(II)Z"⟩ ⟨"HistoryJudge$History", "hasVersion", "(II)Z"⟩) ∈ jW := List.mem_of_getElem? (i := 448) (by decide +kernel)
theorem wl449 : (Cond.code ⟨"HistoryJudge$History", "hasVersion", "(II)Z"⟩ prog_4_method_5_code 3 (some FieldType.boolean)) ∈ jW := List.mem_of_getElem? (i := 449) (by decide +kernel)
theorem wl450 : (Cond.classLink "HistoryJudge" 68 "java/util/NoSuchElementException") ∈ jW := List.mem_of_getElem? (i := 450) (by decide +kernel)
theorem wl451 : (Cond.instantiable "java/util/NoSuchElementException" 6) ∈ jW := List.mem_of_getElem? (i := 451) (by decide +kernel)
theorem wl452 : (Cond.selects "java/util/NoSuchElementException" ⟨"java/lang/Throwable", "fillInStackTrace", "(I)Ljava/lang/Throwable;"⟩ ⟨"java/lang/Throwable", "fillInStackTrace", "(I)Ljava/lang/Throwable;"⟩) ∈ jW := List.mem_of_getElem? (i := 452) (by decide +kernel)
theorem wl453 : (Cond.lays "java/util/NoSuchElementException" "java/lang/Throwable" "cause" "Ljava/lang/Throwable;") ∈ jW := List.mem_of_getElem? (i := 453) (by decide +kernel)
theorem wl454 : (Cond.lays "java/util/NoSuchElementException" "java/lang/Throwable" "stackTrace" "[Ljava/lang/StackTraceElement;") ∈ jW := List.mem_of_getElem? (i := 454) (by decide +kernel)
theorem wl455 : (Cond.lays "java/util/NoSuchElementException" "java/lang/Throwable" "suppressedExceptions" "Ljava/util/List;") ∈ jW := List.mem_of_getElem? (i := 455) (by decide +kernel)
theorem wl456 : (Cond.lays "java/util/NoSuchElementException" "java/lang/Throwable" "detailMessage" "Ljava/lang/String;") ∈ jW := List.mem_of_getElem? (i := 456) (by decide +kernel)
theorem wl457 : (Cond.lays "java/util/NoSuchElementException" "java/lang/Throwable" "backtrace" "Ljava/lang/Object;") ∈ jW := List.mem_of_getElem? (i := 457) (by decide +kernel)
theorem wl458 : (Cond.methodLink "HistoryJudge" 70 ⟨"java/util/NoSuchElementException", "<init>", "()V"⟩) ∈ jW := List.mem_of_getElem? (i := 458) (by decide +kernel)
theorem wl459 : (Cond.instanceMethod ⟨"java/util/NoSuchElementException", "<init>", "()V"⟩) ∈ jW := List.mem_of_getElem? (i := 459) (by decide +kernel)
theorem wl460 : (Cond.code ⟨"java/util/NoSuchElementException", "<init>", "()V"⟩ prog_16_method_1_code 1 none) ∈ jW := List.mem_of_getElem? (i := 460) (by decide +kernel)
theorem wl461 : (Cond.methodLink "java/util/NoSuchElementException" 1 ⟨"java/lang/RuntimeException", "<init>", "()V"⟩) ∈ jW := List.mem_of_getElem? (i := 461) (by decide +kernel)
theorem wl462 : (Cond.lays "java/util/NoSuchElementException" "java/lang/Throwable" "depth" "I") ∈ jW := List.mem_of_getElem? (i := 462) (by decide +kernel)
theorem wl463 : (Cond.methodLink "HistoryJudge" 74 ⟨"HistoryJudge$History", "addRead", "(III)I"⟩) ∈ jW := List.mem_of_getElem? (i := 463) (by decide +kernel)
theorem wl464 : (Cond.instanceMethod ⟨"HistoryJudge$History", "addRead", "(III)I"⟩) ∈ jW := List.mem_of_getElem? (i := 464) (by decide +kernel)
theorem wl465 : (Cond.selects "HistoryJudge$History" ⟨"HistoryJudge$History", "addRead", "(III)I"⟩ ⟨"HistoryJudge$History", "addRead", "(III)I"⟩) ∈ jW := List.mem_of_getElem? (i := 465) (by decide +kernel)
theorem wl466 : (Cond.code ⟨"HistoryJudge$History", "addRead", "(III)I"⟩ prog_4_method_7_code 4 (some FieldType.int)) ∈ jW := List.mem_of_getElem? (i := 466) (by decide +kernel)
theorem wl467 : (Cond.methodLink "HistoryJudgeLaw" 47 ⟨"HistoryJudgeLaw", "end", "(LHistoryJudge;IZ)I"⟩) ∈ jW := List.mem_of_getElem? (i := 467) (by decide +kernel)
theorem wl468 : (Cond.static ⟨"HistoryJudgeLaw", "end", "(LHistoryJudge;IZ)I"⟩) ∈ jW := List.mem_of_getElem? (i := 468) (by decide +kernel)
theorem wl469 : (Cond.methodLink "HistoryJudgeLaw" 25 ⟨"HistoryJudge", "end", "(IZ)V"⟩) ∈ jW := List.mem_of_getElem? (i := 469) (by decide +kernel)
theorem wl470 : (Cond.instanceMethod ⟨"HistoryJudge", "end", "(IZ)V"⟩) ∈ jW := List.mem_of_getElem? (i := 470) (by decide +kernel)
theorem wl471 : (Cond.selects "HistoryJudge" ⟨"HistoryJudge", "end", "(IZ)V"⟩ ⟨"HistoryJudge", "end", "(IZ)V"⟩) ∈ jW := List.mem_of_getElem? (i := 471) (by decide +kernel)
theorem wl472 : (Cond.code ⟨"HistoryJudge", "end", "(IZ)V"⟩ prog_1_method_4_code 3 none) ∈ jW := List.mem_of_getElem? (i := 472) (by decide +kernel)
theorem wl473 : (Cond.methodLink "HistoryJudge" 82 ⟨"HistoryJudge$History", "commit", "(I)V"⟩) ∈ jW := List.mem_of_getElem? (i := 473) (by decide +kernel)
theorem wl474 : (Cond.instanceMethod ⟨"HistoryJudge$History", "commit", "(I)V"⟩) ∈ jW := List.mem_of_getElem? (i := 474) (by decide +kernel)
theorem wl475 : (Cond.selects "HistoryJudge$History" ⟨"HistoryJudge$History", "commit", "(I)V"⟩ ⟨"HistoryJudge$History", "commit", "(I)V"⟩) ∈ jW := List.mem_of_getElem? (i := 475) (by decide +kernel)
theorem wl476 : (Cond.code ⟨"HistoryJudge$History", "commit", "(I)V"⟩ prog_4_method_8_code 3 none) ∈ jW := List.mem_of_getElem? (i := 476) (by decide +kernel)
theorem wl477 : (Cond.classLink "HistoryJudgeLaw" 30 "HistoryJudgeModel") ∈ jW := List.mem_of_getElem? (i := 477) (by decide +kernel)
theorem wl478 : (Cond.instantiable "HistoryJudgeModel" 18) ∈ jW := List.mem_of_getElem? (i := 478) (by decide +kernel)
theorem wl479 : (Cond.methodLink "HistoryJudgeLaw" 32 ⟨"HistoryJudgeModel", "<init>", "()V"⟩) ∈ jW := List.mem_of_getElem? (i := 479) (by decide +kernel)
theorem wl480 : (Cond.instanceMethod ⟨"HistoryJudgeModel", "<init>", "()V"⟩) ∈ jW := List.mem_of_getElem? (i := 480) (by decide +kernel)
theorem wl481 : (Cond.code ⟨"HistoryJudgeModel", "<init>", "()V"⟩ prog_7_method_1_code 1 none) ∈ jW := List.mem_of_getElem? (i := 481) (by decide +kernel)
theorem wl482 : (Cond.methodLink "HistoryJudgeModel" 1 ⟨"java/lang/Object", "<init>", "()V"⟩) ∈ jW := List.mem_of_getElem? (i := 482) (by decide +kernel)
theorem wl483 : (Cond.fieldLink "HistoryJudgeModel" 50 "HistoryJudgeModel" "code" "I") ∈ jW := List.mem_of_getElem? (i := 483) (by decide +kernel)
theorem wl484 : (Cond.fieldLink "HistoryJudgeModel" 7 "HistoryJudgeModel" "states" "[I") ∈ jW := List.mem_of_getElem? (i := 484) (by decide +kernel)
theorem wl485 : (Cond.fieldLink "HistoryJudgeModel" 64 "HistoryJudgeModel" "versions" "I") ∈ jW := List.mem_of_getElem? (i := 485) (by decide +kernel)
theorem wl486 : (Cond.fieldLink "HistoryJudgeModel" 13 "HistoryJudgeModel" "writer" "[I") ∈ jW := List.mem_of_getElem? (i := 486) (by decide +kernel)
theorem wl487 : (Cond.fieldLink "HistoryJudgeModel" 16 "HistoryJudgeModel" "itemOf" "[I") ∈ jW := List.mem_of_getElem? (i := 487) (by decide +kernel)
theorem wl488 : (Cond.fieldLink "HistoryJudgeModel" 75 "HistoryJudgeModel" "reads" "I") ∈ jW := List.mem_of_getElem? (i := 488) (by decide +kernel)
theorem wl489 : (Cond.fieldLink "HistoryJudgeModel" 54 "HistoryJudgeModel" "events" "I") ∈ jW := List.mem_of_getElem? (i := 489) (by decide +kernel)
theorem wl490 : (Cond.fieldLink "HistoryJudgeModel" 19 "HistoryJudgeModel" "who" "[I") ∈ jW := List.mem_of_getElem? (i := 490) (by decide +kernel)
theorem wl491 : (Cond.fieldLink "HistoryJudgeModel" 22 "HistoryJudgeModel" "what" "[I") ∈ jW := List.mem_of_getElem? (i := 491) (by decide +kernel)
theorem wl492 : (Cond.fieldLink "HistoryJudgeModel" 25 "HistoryJudgeModel" "which" "[I") ∈ jW := List.mem_of_getElem? (i := 492) (by decide +kernel)
theorem wl493 : (Cond.fieldLink "HistoryJudgeModel" 28 "HistoryJudgeModel" "writes" "[Z") ∈ jW := List.mem_of_getElem? (i := 493) (by decide +kernel)
theorem wl494 : (Cond.fieldLink "HistoryJudgeModel" 32 "HistoryJudgeModel" "lengths" "[I") ∈ jW := List.mem_of_getElem? (i := 494) (by decide +kernel)
theorem wl495 : (Cond.fieldLink "HistoryJudgeModel" 35 "HistoryJudgeModel" "order" "[I") ∈ jW := List.mem_of_getElem? (i := 495) (by decide +kernel)
theorem wl496 : (Cond.fieldLink "HistoryJudgeModel" 38 "HistoryJudgeModel" "drawn" "[I") ∈ jW := List.mem_of_getElem? (i := 496) (by decide +kernel)
theorem wl497 : (Cond.fieldLink "HistoryJudgeModel" 41 "HistoryJudgeModel" "row" "[I") ∈ jW := List.mem_of_getElem? (i := 497) (by decide +kernel)
theorem wl498 : (Cond.fieldLink "HistoryJudgeModel" 44 "HistoryJudgeModel" "tries" "[I") ∈ jW := List.mem_of_getElem? (i := 498) (by decide +kernel)
theorem wl499 : (Cond.fieldLink "HistoryJudgeModel" 133 "HistoryJudgeModel" "size" "I") ∈ jW := List.mem_of_getElem? (i := 499) (by decide +kernel)
theorem wl500 : (Cond.fieldLink "HistoryJudgeModel" 47 "HistoryJudgeModel" "latest" "[I") ∈ jW := List.mem_of_getElem? (i := 500) (by decide +kernel)
theorem wl501 : (Cond.lays "HistoryJudgeModel" "HistoryJudgeModel" "code" "I") ∈ jW := List.mem_of_getElem? (i := 501) (by decide +kernel)
theorem wl502 : (Cond.laysFinal "HistoryJudgeModel" "HistoryJudgeModel" "states" "[I") ∈ jW := List.mem_of_getElem? (i := 502) (by decide +kernel)
theorem wl503 : (Cond.lays "HistoryJudgeModel" "HistoryJudgeModel" "versions" "I") ∈ jW := List.mem_of_getElem? (i := 503) (by decide +kernel)
theorem wl504 : (Cond.laysFinal "HistoryJudgeModel" "HistoryJudgeModel" "writer" "[I") ∈ jW := List.mem_of_getElem? (i := 504) (by decide +kernel)
theorem wl505 : (Cond.laysFinal "HistoryJudgeModel" "HistoryJudgeModel" "itemOf" "[I") ∈ jW := List.mem_of_getElem? (i := 505) (by decide +kernel)
theorem wl506 : (Cond.lays "HistoryJudgeModel" "HistoryJudgeModel" "reads" "I") ∈ jW := List.mem_of_getElem? (i := 506) (by decide +kernel)
theorem wl507 : (Cond.lays "HistoryJudgeModel" "HistoryJudgeModel" "events" "I") ∈ jW := List.mem_of_getElem? (i := 507) (by decide +kernel)
theorem wl508 : (Cond.laysFinal "HistoryJudgeModel" "HistoryJudgeModel" "who" "[I") ∈ jW := List.mem_of_getElem? (i := 508) (by decide +kernel)
theorem wl509 : (Cond.laysFinal "HistoryJudgeModel" "HistoryJudgeModel" "what" "[I") ∈ jW := List.mem_of_getElem? (i := 509) (by decide +kernel)
theorem wl510 : (Cond.laysFinal "HistoryJudgeModel" "HistoryJudgeModel" "which" "[I") ∈ jW := List.mem_of_getElem? (i := 510) (by decide +kernel)
theorem wl511 : (Cond.laysFinal "HistoryJudgeModel" "HistoryJudgeModel" "writes" "[Z") ∈ jW := List.mem_of_getElem? (i := 511) (by decide +kernel)
theorem wl512 : (Cond.laysFinal "HistoryJudgeModel" "HistoryJudgeModel" "lengths" "[I") ∈ jW := List.mem_of_getElem? (i := 512) (by decide +kernel)
theorem wl513 : (Cond.laysFinal "HistoryJudgeModel" "HistoryJudgeModel" "order" "[I") ∈ jW := List.mem_of_getElem? (i := 513) (by decide +kernel)
theorem wl514 : (Cond.laysFinal "HistoryJudgeModel" "HistoryJudgeModel" "drawn" "[I") ∈ jW := List.mem_of_getElem? (i := 514) (by decide +kernel)
theorem wl515 : (Cond.laysFinal "HistoryJudgeModel" "HistoryJudgeModel" "row" "[I") ∈ jW := List.mem_of_getElem? (i := 515) (by decide +kernel)
theorem wl516 : (Cond.laysFinal "HistoryJudgeModel" "HistoryJudgeModel" "tries" "[I") ∈ jW := List.mem_of_getElem? (i := 516) (by decide +kernel)
theorem wl517 : (Cond.lays "HistoryJudgeModel" "HistoryJudgeModel" "size" "I") ∈ jW := List.mem_of_getElem? (i := 517) (by decide +kernel)
theorem wl518 : (Cond.laysFinal "HistoryJudgeModel" "HistoryJudgeModel" "latest" "[I") ∈ jW := List.mem_of_getElem? (i := 518) (by decide +kernel)
theorem wl519 : (Cond.arrayClass FieldType.boolean) ∈ jW := List.mem_of_getElem? (i := 519) (by decide +kernel)
theorem wl520 : (Cond.methodLink "HistoryJudgeLaw" 39 ⟨"HistoryJudgeModel", "thrown", "()I"⟩) ∈ jW := List.mem_of_getElem? (i := 520) (by decide +kernel)
theorem wl521 : (Cond.instanceMethod ⟨"HistoryJudgeModel", "thrown", "()I"⟩) ∈ jW := List.mem_of_getElem? (i := 521) (by decide +kernel)
theorem wl522 : (Cond.selects "HistoryJudgeModel" ⟨"HistoryJudgeModel", "thrown", "()I"⟩ ⟨"HistoryJudgeModel", "thrown", "()I"⟩) ∈ jW := List.mem_of_getElem? (i := 522) (by decide +kernel)
theorem wl523 : (Cond.code ⟨"HistoryJudgeModel", "thrown", "()I"⟩ prog_7_method_2_code 1 (some FieldType.int)) ∈ jW := List.mem_of_getElem? (i := 523) (by decide +kernel)
theorem wl524 : (Cond.methodLink "HistoryJudgeLaw" 38 ⟨"HistoryJudgeModel", "write", "(II)I"⟩) ∈ jW := List.mem_of_getElem? (i := 524) (by decide +kernel)
theorem wl525 : (Cond.instanceMethod ⟨"HistoryJudgeModel", "write", "(II)I"⟩) ∈ jW := List.mem_of_getElem? (i := 525) (by decide +kernel)
theorem wl526 : (Cond.selects "HistoryJudgeModel" ⟨"HistoryJudgeModel", "write", "(II)I"⟩ ⟨"HistoryJudgeModel", "write", "(II)I"⟩) ∈ jW := List.mem_of_getElem? (i := 526) (by decide +kernel)
theorem wl527 : (Cond.code ⟨"HistoryJudgeModel", "write", "(II)I"⟩ prog_7_method_6_code 3 (some FieldType.int)) ∈ jW := List.mem_of_getElem? (i := 527) (by decide +kernel)
theorem wl528 : (Cond.methodLink "HistoryJudgeModel" 57 ⟨"HistoryJudgeModel", "isOne", "(I)Z"⟩) ∈ jW := List.mem_of_getElem? (i := 528) (by decide +kernel)
theorem wl529 : (Cond.static ⟨"HistoryJudgeModel", "isOne", "(I)Z"⟩) ∈ jW := List.mem_of_getElem? (i := 529) (by decide +kernel)
theorem wl530 : (Cond.code ⟨"HistoryJudgeModel", "isOne", "(I)Z"⟩ prog_7_method_4_code 1 (some FieldType.boolean)) ∈ jW := List.mem_of_getElem? (i := 530) (by decide +kernel)
theorem wl531 : (Cond.methodLink "HistoryJudgeModel" 61 ⟨"HistoryJudgeModel", "isItem", "(I)Z"⟩) ∈ jW := List.mem_of_getElem? (i := 531) (by decide +kernel)
theorem wl532 : (Cond.static ⟨"HistoryJudgeModel", "isItem", "(I)Z"⟩) ∈ jW := List.mem_of_getElem? (i := 532) (by decide +kernel)
theorem wl533 : (Cond.code ⟨"HistoryJudgeModel", "isItem", "(I)Z"⟩ prog_7_method_3_code 1 (some FieldType.boolean)) ∈ jW := List.mem_of_getElem? (i := 533) (by decide +kernel)
theorem wl534 : (Cond.methodLink "HistoryJudgeModel" 67 ⟨"HistoryJudgeModel", "note", "(IIIZ)V"⟩) ∈ jW := List.mem_of_getElem? (i := 534) (by decide +kernel)
theorem wl535 : (Cond.instanceMethod ⟨"HistoryJudgeModel", "note", "(IIIZ)V"⟩) ∈ jW := List.mem_of_getElem? (i := 535) (by decide +kernel)
theorem wl536 : (Cond.code ⟨"HistoryJudgeModel", "note", "(IIIZ)V"⟩ prog_7_method_5_code 5 none) ∈ jW := List.mem_of_getElem? (i := 536) (by decide +kernel)
theorem wl537 : (Cond.methodLink "HistoryJudgeLaw" 46 ⟨"HistoryJudgeModel", "read", "(III)I"⟩) ∈ jW := List.mem_of_getElem? (i := 537) (by decide +kernel)
theorem wl538 : (Cond.instanceMethod ⟨"HistoryJudgeModel", "read", "(III)I"⟩) ∈ jW := List.mem_of_getElem? (i := 538) (by decide +kernel)
theorem wl539 : (Cond.selects "HistoryJudgeModel" ⟨"HistoryJudgeModel", "read", "(III)I"⟩ ⟨"HistoryJudgeModel", "read", "(III)I"⟩) ∈ jW := List.mem_of_getElem? (i := 539) (by decide +kernel)
theorem wl540 : (Cond.code ⟨"HistoryJudgeModel", "read", "(III)I"⟩ prog_7_method_8_code 4 (some FieldType.int)) ∈ jW := List.mem_of_getElem? (i := 540) (by decide +kernel)
theorem wl541 : (Cond.methodLink "HistoryJudgeModel" 71 ⟨"HistoryJudgeModel", "isVersion", "(II)Z"⟩) ∈ jW := List.mem_of_getElem? (i := 541) (by decide +kernel)
theorem wl542 : (Cond.instanceMethod ⟨"HistoryJudgeModel", "isVersion", "(II)Z"⟩) ∈ jW := List.mem_of_getElem? (i := 542) (by decide +kernel)
theorem wl543 : (Cond.code ⟨"HistoryJudgeModel", "isVersion", "(II)Z"⟩ prog_7_method_7_code 3 (some FieldType.boolean)) ∈ jW := List.mem_of_getElem? (i := 543) (by decide +kernel)
theorem wl544 : (Cond.methodLink "HistoryJudgeLaw" 50 ⟨"HistoryJudgeModel", "end", "(IZ)V"⟩) ∈ jW := List.mem_of_getElem? (i := 544) (by decide +kernel)
theorem wl545 : (Cond.instanceMethod ⟨"HistoryJudgeModel", "end", "(IZ)V"⟩) ∈ jW := List.mem_of_getElem? (i := 545) (by decide +kernel)
theorem wl546 : (Cond.selects "HistoryJudgeModel" ⟨"HistoryJudgeModel", "end", "(IZ)V"⟩ ⟨"HistoryJudgeModel", "end", "(IZ)V"⟩) ∈ jW := List.mem_of_getElem? (i := 546) (by decide +kernel)
theorem wl547 : (Cond.code ⟨"HistoryJudgeModel", "end", "(IZ)V"⟩ prog_7_method_10_code 5 none) ∈ jW := List.mem_of_getElem? (i := 547) (by decide +kernel)
theorem wl548 : (Cond.methodLink "HistoryJudgeModel" 78 ⟨"HistoryJudgeModel", "isFinal", "(I)Z"⟩) ∈ jW := List.mem_of_getElem? (i := 548) (by decide +kernel)
theorem wl549 : (Cond.instanceMethod ⟨"HistoryJudgeModel", "isFinal", "(I)Z"⟩) ∈ jW := List.mem_of_getElem? (i := 549) (by decide +kernel)
theorem wl550 : (Cond.code ⟨"HistoryJudgeModel", "isFinal", "(I)Z"⟩ prog_7_method_9_code 4 (some FieldType.boolean)) ∈ jW := List.mem_of_getElem? (i := 550) (by decide +kernel)
theorem wl551 : (Cond.methodLink "HistoryJudgeLaw" 55 ⟨"HistoryJudgeModel", "state", "(I)I"⟩) ∈ jW := List.mem_of_getElem? (i := 551) (by decide +kernel)
theorem wl552 : (Cond.instanceMethod ⟨"HistoryJudgeModel", "state", "(I)I"⟩) ∈ jW := List.mem_of_getElem? (i := 552) (by decide +kernel)
theorem wl553 : (Cond.selects "HistoryJudgeModel" ⟨"HistoryJudgeModel", "state", "(I)I"⟩ ⟨"HistoryJudgeModel", "state", "(I)I"⟩) ∈ jW := List.mem_of_getElem? (i := 553) (by decide +kernel)
theorem wl554 : (Cond.code ⟨"HistoryJudgeModel", "state", "(I)I"⟩ prog_7_method_11_code 2 (some FieldType.int)) ∈ jW := List.mem_of_getElem? (i := 554) (by decide +kernel)
theorem wl555 : (Cond.methodLink "HistoryJudgeLaw" 59 ⟨"HistoryJudgeModel", "version", "(II)I"⟩) ∈ jW := List.mem_of_getElem? (i := 555) (by decide +kernel)
theorem wl556 : (Cond.instanceMethod ⟨"HistoryJudgeModel", "version", "(II)I"⟩) ∈ jW := List.mem_of_getElem? (i := 556) (by decide +kernel)
theorem wl557 : (Cond.selects "HistoryJudgeModel" ⟨"HistoryJudgeModel", "version", "(II)I"⟩ ⟨"HistoryJudgeModel", "version", "(II)I"⟩) ∈ jW := List.mem_of_getElem? (i := 557) (by decide +kernel)
theorem wl558 : (Cond.code ⟨"HistoryJudgeModel", "version", "(II)I"⟩ prog_7_method_12_code 3 (some FieldType.int)) ∈ jW := List.mem_of_getElem? (i := 558) (by decide +kernel)
theorem wl559 : (Cond.methodLink "HistoryJudgeLaw" 64 ⟨"HistoryJudgeModel", "exchange", "(II)Z"⟩) ∈ jW := List.mem_of_getElem? (i := 559) (by decide +kernel)
theorem wl560 : (Cond.instanceMethod ⟨"HistoryJudgeModel", "exchange", "(II)Z"⟩) ∈ jW := List.mem_of_getElem? (i := 560) (by decide +kernel)
theorem wl561 : (Cond.selects "HistoryJudgeModel" ⟨"HistoryJudgeModel", "exchange", "(II)Z"⟩ ⟨"HistoryJudgeModel", "exchange", "(II)Z"⟩) ∈ jW := List.mem_of_getElem? (i := 561) (by decide +kernel)
theorem wl562 : (Cond.code ⟨"HistoryJudgeModel", "exchange", "(II)Z"⟩ prog_7_method_13_code 4 (some FieldType.boolean)) ∈ jW := List.mem_of_getElem? (i := 562) (by decide +kernel)
theorem wl563 : (Cond.methodLink "HistoryJudgeLaw" 101 ⟨"HistoryJudgeModel", "clear", "()I"⟩) ∈ jW := List.mem_of_getElem? (i := 563) (by decide +kernel)
theorem wl564 : (Cond.instanceMethod ⟨"HistoryJudgeModel", "clear", "()I"⟩) ∈ jW := List.mem_of_getElem? (i := 564) (by decide +kernel)
theorem wl565 : (Cond.selects "HistoryJudgeModel" ⟨"HistoryJudgeModel", "clear", "()I"⟩ ⟨"HistoryJudgeModel", "clear", "()I"⟩) ∈ jW := List.mem_of_getElem? (i := 565) (by decide +kernel)
theorem wl566 : (Cond.code ⟨"HistoryJudgeModel", "clear", "()I"⟩ prog_7_method_14_code 3 (some FieldType.int)) ∈ jW := List.mem_of_getElem? (i := 566) (by decide +kernel)
theorem wl567 : (Cond.methodLink "HistoryJudgeLaw" 68 ⟨"HistoryJudgeModel", "edges", "(II)I"⟩) ∈ jW := List.mem_of_getElem? (i := 567) (by decide +kernel)
theorem wl568 : (Cond.instanceMethod ⟨"HistoryJudgeModel", "edges", "(II)I"⟩) ∈ jW := List.mem_of_getElem? (i := 568) (by decide +kernel)
theorem wl569 : (Cond.selects "HistoryJudgeModel" ⟨"HistoryJudgeModel", "edges", "(II)I"⟩ ⟨"HistoryJudgeModel", "edges", "(II)I"⟩) ∈ jW := List.mem_of_getElem? (i := 569) (by decide +kernel)
theorem wl570 : (Cond.code ⟨"HistoryJudgeModel", "edges", "(II)I"⟩ prog_7_method_21_code 3 (some FieldType.int)) ∈ jW := List.mem_of_getElem? (i := 570) (by decide +kernel)
theorem wl571 : (Cond.methodLink "HistoryJudgeModel" 97 ⟨"HistoryJudgeModel", "edge", "(II)I"⟩) ∈ jW := List.mem_of_getElem? (i := 571) (by decide +kernel)
theorem wl572 : (Cond.instanceMethod ⟨"HistoryJudgeModel", "edge", "(II)I"⟩) ∈ jW := List.mem_of_getElem? (i := 572) (by decide +kernel)
theorem wl573 : (Cond.code ⟨"HistoryJudgeModel", "edge", "(II)I"⟩ prog_7_method_20_code 3 (some FieldType.int)) ∈ jW := List.mem_of_getElem? (i := 573) (by decide +kernel)
theorem wl574 : (Cond.methodLink "HistoryJudgeModel" 85 ⟨"HistoryJudgeModel", "isCommitted", "(I)Z"⟩) ∈ jW := List.mem_of_getElem? (i := 574) (by decide +kernel)
theorem wl575 : (Cond.instanceMethod ⟨"HistoryJudgeModel", "isCommitted", "(I)Z"⟩) ∈ jW := List.mem_of_getElem? (i := 575) (by decide +kernel)
theorem wl576 : (Cond.code ⟨"HistoryJudgeModel", "isCommitted", "(I)Z"⟩ prog_7_method_15_code 2 (some FieldType.boolean)) ∈ jW := List.mem_of_getElem? (i := 576) (by decide +kernel)
theorem wl577 : (Cond.methodLink "HistoryJudgeModel" 88 ⟨"HistoryJudgeModel", "follows", "(II)Z"⟩) ∈ jW := List.mem_of_getElem? (i := 577) (by decide +kernel)
theorem wl578 : (Cond.instanceMethod ⟨"HistoryJudgeModel", "follows", "(II)Z"⟩) ∈ jW := List.mem_of_getElem? (i := 578) (by decide +kernel)
theorem wl579 : (Cond.code ⟨"HistoryJudgeModel", "follows", "(II)Z"⟩ prog_7_method_17_code 6 (some FieldType.boolean)) ∈ jW := List.mem_of_getElem? (i := 579) (by decide +kernel)
theorem wl580 : (Cond.methodLink "HistoryJudgeModel" 81 ⟨"HistoryJudgeModel", "nextOf", "(II)I"⟩) ∈ jW := List.mem_of_getElem? (i := 580) (by decide +kernel)
theorem wl581 : (Cond.instanceMethod ⟨"HistoryJudgeModel", "nextOf", "(II)I"⟩) ∈ jW := List.mem_of_getElem? (i := 581) (by decide +kernel)
theorem wl582 : (Cond.code ⟨"HistoryJudgeModel", "nextOf", "(II)I"⟩ prog_7_method_16_code 5 (some FieldType.int)) ∈ jW := List.mem_of_getElem? (i := 582) (by decide +kernel)
theorem wl583 : (Cond.methodLink "HistoryJudgeModel" 91 ⟨"HistoryJudgeModel", "hasRead", "(II)Z"⟩) ∈ jW := List.mem_of_getElem? (i := 583) (by decide +kernel)
theorem wl584 : (Cond.instanceMethod ⟨"HistoryJudgeModel", "hasRead", "(II)Z"⟩) ∈ jW := List.mem_of_getElem? (i := 584) (by decide +kernel)
theorem wl585 : (Cond.code ⟨"HistoryJudgeModel", "hasRead", "(II)Z"⟩ prog_7_method_18_code 5 (some FieldType.boolean)) ∈ jW := List.mem_of_getElem? (i := 585) (by decide +kernel)
theorem wl586 : (Cond.methodLink "HistoryJudgeModel" 94 ⟨"HistoryJudgeModel", "overtaken", "(II)Z"⟩) ∈ jW := List.mem_of_getElem? (i := 586) (by decide +kernel)
theorem wl587 : (Cond.instanceMethod ⟨"HistoryJudgeModel", "overtaken", "(II)Z"⟩) ∈ jW := List.mem_of_getElem? (i := 587) (by decide +kernel)
theorem wl588 : (Cond.code ⟨"HistoryJudgeModel", "overtaken", "(II)Z"⟩ prog_7_method_19_code 6 (some FieldType.boolean)) ∈ jW := List.mem_of_getElem? (i := 588) (by decide +kernel)
theorem wl589 : (Cond.methodLink "HistoryJudgeLaw" 80 ⟨"HistoryJudgeModel", "cycle", "(I)I"⟩) ∈ jW := List.mem_of_getElem? (i := 589) (by decide +kernel)
theorem wl590 : (Cond.instanceMethod ⟨"HistoryJudgeModel", "cycle", "(I)I"⟩) ∈ jW := List.mem_of_getElem? (i := 590) (by decide +kernel)
theorem wl591 : (Cond.selects "HistoryJudgeModel" ⟨"HistoryJudgeModel", "cycle", "(I)I"⟩ ⟨"HistoryJudgeModel", "cycle", "(I)I"⟩) ∈ jW := List.mem_of_getElem? (i := 591) (by decide +kernel)
theorem wl592 : (Cond.code ⟨"HistoryJudgeModel", "cycle", "(I)I"⟩ prog_7_method_29_code 2 (some FieldType.int)) ∈ jW := List.mem_of_getElem? (i := 592) (by decide +kernel)
theorem wl593 : (Cond.methodLink "HistoryJudgeModel" 120 ⟨"HistoryJudgeModel", "findCycle", "(I)I"⟩) ∈ jW := List.mem_of_getElem? (i := 593) (by decide +kernel)
theorem wl594 : (Cond.instanceMethod ⟨"HistoryJudgeModel", "findCycle", "(I)I"⟩) ∈ jW := List.mem_of_getElem? (i := 594) (by decide +kernel)
theorem wl595 : (Cond.code ⟨"HistoryJudgeModel", "findCycle", "(I)I"⟩ prog_7_method_28_code 3 (some FieldType.int)) ∈ jW := List.mem_of_getElem? (i := 595) (by decide +kernel)
theorem wl596 : (Cond.methodLink "HistoryJudgeModel" 114 ⟨"HistoryJudgeModel", "draw", "()V"⟩) ∈ jW := List.mem_of_getElem? (i := 596) (by decide +kernel)
theorem wl597 : (Cond.instanceMethod ⟨"HistoryJudgeModel", "draw", "()V"⟩) ∈ jW := List.mem_of_getElem? (i := 597) (by decide +kernel)
theorem wl598 : (Cond.code ⟨"HistoryJudgeModel", "draw", "()V"⟩ prog_7_method_22_code 3 none) ∈ jW := List.mem_of_getElem? (i := 598) (by decide +kernel)
theorem wl599 : (Cond.methodLink "HistoryJudgeModel" 117 ⟨"HistoryJudgeModel", "tryRows", "(II)Z"⟩) ∈ jW := List.mem_of_getElem? (i := 599) (by decide +kernel)
theorem wl600 : (Cond.instanceMethod ⟨"HistoryJudgeModel", "tryRows", "(II)Z"⟩) ∈ jW := List.mem_of_getElem? (i := 600) (by decide +kernel)
theorem wl601 : (Cond.code ⟨"HistoryJudgeModel", "tryRows", "(II)Z"⟩ prog_7_method_27_code 5 (some FieldType.boolean)) ∈ jW := List.mem_of_getElem? (i := 601) (by decide +kernel)
theorem wl602 : (Cond.methodLink "HistoryJudgeModel" 107 ⟨"HistoryJudgeModel", "fits", "(III)Z"⟩) ∈ jW := List.mem_of_getElem? (i := 602) (by decide +kernel)
theorem wl603 : (Cond.instanceMethod ⟨"HistoryJudgeModel", "fits", "(III)Z"⟩) ∈ jW := List.mem_of_getElem? (i := 603) (by decide +kernel)
theorem wl604 : (Cond.code ⟨"HistoryJudgeModel", "fits", "(III)Z"⟩ prog_7_method_26_code 4 (some FieldType.boolean)) ∈ jW := List.mem_of_getElem? (i := 604) (by decide +kernel)
theorem wl605 : (Cond.methodLink "HistoryJudgeModel" 104 ⟨"HistoryJudgeModel", "inRow", "(II)Z"⟩) ∈ jW := List.mem_of_getElem? (i := 605) (by decide +kernel)
theorem wl606 : (Cond.instanceMethod ⟨"HistoryJudgeModel", "inRow", "(II)Z"⟩) ∈ jW := List.mem_of_getElem? (i := 606) (by decide +kernel)
theorem wl607 : (Cond.code ⟨"HistoryJudgeModel", "inRow", "(II)Z"⟩ prog_7_method_24_code 5 (some FieldType.boolean)) ∈ jW := List.mem_of_getElem? (i := 607) (by decide +kernel)
theorem wl608 : (Cond.methodLink "HistoryJudgeModel" 100 ⟨"HistoryJudgeModel", "mask", "(I)I"⟩) ∈ jW := List.mem_of_getElem? (i := 608) (by decide +kernel)
theorem wl609 : (Cond.static ⟨"HistoryJudgeModel", "mask", "(I)I"⟩) ∈ jW := List.mem_of_getElem? (i := 609) (by decide +kernel)
theorem wl610 : (Cond.code ⟨"HistoryJudgeModel", "mask", "(I)I"⟩ prog_7_method_23_code 1 (some FieldType.int)) ∈ jW := List.mem_of_getElem? (i := 610) (by decide +kernel)
theorem wl611 : (Cond.methodLink "HistoryJudgeModel" 111 ⟨"HistoryJudgeModel", "closes", "(II)Z"⟩) ∈ jW := List.mem_of_getElem? (i := 611) (by decide +kernel)
theorem wl612 : (Cond.instanceMethod ⟨"HistoryJudgeModel", "closes", "(II)Z"⟩) ∈ jW := List.mem_of_getElem? (i := 612) (by decide +kernel)
theorem wl613 : (Cond.code ⟨"HistoryJudgeModel", "closes", "(II)Z"⟩ prog_7_method_25_code 7 (some FieldType.boolean)) ∈ jW := List.mem_of_getElem? (i := 613) (by decide +kernel)
theorem wl614 : (Cond.methodLink "HistoryJudgeLaw" 84 ⟨"HistoryJudgeModel", "step", "(II)I"⟩) ∈ jW := List.mem_of_getElem? (i := 614) (by decide +kernel)
theorem wl615 : (Cond.instanceMethod ⟨"HistoryJudgeModel", "step", "(II)I"⟩) ∈ jW := List.mem_of_getElem? (i := 615) (by decide +kernel)
theorem wl616 : (Cond.selects "HistoryJudgeModel" ⟨"HistoryJudgeModel", "step", "(II)I"⟩ ⟨"HistoryJudgeModel", "step", "(II)I"⟩) ∈ jW := List.mem_of_getElem? (i := 616) (by decide +kernel)
theorem wl617 : (Cond.code ⟨"HistoryJudgeModel", "step", "(II)I"⟩ prog_7_method_30_code 4 (some FieldType.int)) ∈ jW := List.mem_of_getElem? (i := 617) (by decide +kernel)
theorem wl618 : (Cond.methodLink "HistoryJudgeLaw" 72 ⟨"HistoryJudgeModel", "flaws", "()I"⟩) ∈ jW := List.mem_of_getElem? (i := 618) (by decide +kernel)
theorem wl619 : (Cond.instanceMethod ⟨"HistoryJudgeModel", "flaws", "()I"⟩) ∈ jW := List.mem_of_getElem? (i := 619) (by decide +kernel)
theorem wl620 : (Cond.selects "HistoryJudgeModel" ⟨"HistoryJudgeModel", "flaws", "()I"⟩ ⟨"HistoryJudgeModel", "flaws", "()I"⟩) ∈ jW := List.mem_of_getElem? (i := 620) (by decide +kernel)
theorem wl621 : (Cond.code ⟨"HistoryJudgeModel", "flaws", "()I"⟩ prog_7_method_33_code 1 (some FieldType.int)) ∈ jW := List.mem_of_getElem? (i := 621) (by decide +kernel)
theorem wl622 : (Cond.methodLink "HistoryJudgeModel" 127 ⟨"HistoryJudgeModel", "allFlaws", "()I"⟩) ∈ jW := List.mem_of_getElem? (i := 622) (by decide +kernel)
theorem wl623 : (Cond.instanceMethod ⟨"HistoryJudgeModel", "allFlaws", "()I"⟩) ∈ jW := List.mem_of_getElem? (i := 623) (by decide +kernel)
theorem wl624 : (Cond.code ⟨"HistoryJudgeModel", "allFlaws", "()I"⟩ prog_7_method_32_code 5 (some FieldType.int)) ∈ jW := List.mem_of_getElem? (i := 624) (by decide +kernel)
theorem wl625 : (Cond.methodLink "HistoryJudgeModel" 123 ⟨"HistoryJudgeModel", "readFlaws", "()I"⟩) ∈ jW := List.mem_of_getElem? (i := 625) (by decide +kernel)
theorem wl626 : (Cond.instanceMethod ⟨"HistoryJudgeModel", "readFlaws", "()I"⟩) ∈ jW := List.mem_of_getElem? (i := 626) (by decide +kernel)
theorem wl627 : (Cond.code ⟨"HistoryJudgeModel", "readFlaws", "()I"⟩ prog_7_method_31_code 7 (some FieldType.int)) ∈ jW := List.mem_of_getElem? (i := 627) (by decide +kernel)
theorem wl628 : (Cond.methodLink "HistoryJudgeLaw" 76 ⟨"HistoryJudgeModel", "level", "()I"⟩) ∈ jW := List.mem_of_getElem? (i := 628) (by decide +kernel)
theorem wl629 : (Cond.instanceMethod ⟨"HistoryJudgeModel", "level", "()I"⟩) ∈ jW := List.mem_of_getElem? (i := 629) (by decide +kernel)
theorem wl630 : (Cond.selects "HistoryJudgeModel" ⟨"HistoryJudgeModel", "level", "()I"⟩ ⟨"HistoryJudgeModel", "level", "()I"⟩) ∈ jW := List.mem_of_getElem? (i := 630) (by decide +kernel)
theorem wl631 : (Cond.code ⟨"HistoryJudgeModel", "level", "()I"⟩ prog_7_method_34_code 2 (some FieldType.int)) ∈ jW := List.mem_of_getElem? (i := 631) (by decide +kernel)
theorem wl632 : (Cond.methodLink "HistoryJudgeLaw" 89 ⟨"HistoryJudgeModel", "serial", "()Z"⟩) ∈ jW := List.mem_of_getElem? (i := 632) (by decide +kernel)
theorem wl633 : (Cond.instanceMethod ⟨"HistoryJudgeModel", "serial", "()Z"⟩) ∈ jW := List.mem_of_getElem? (i := 633) (by decide +kernel)
theorem wl634 : (Cond.selects "HistoryJudgeModel" ⟨"HistoryJudgeModel", "serial", "()Z"⟩ ⟨"HistoryJudgeModel", "serial", "()Z"⟩) ∈ jW := List.mem_of_getElem? (i := 634) (by decide +kernel)
theorem wl635 : (Cond.code ⟨"HistoryJudgeModel", "serial", "()Z"⟩ prog_7_method_38_code 1 (some FieldType.boolean)) ∈ jW := List.mem_of_getElem? (i := 635) (by decide +kernel)
theorem wl636 : (Cond.methodLink "HistoryJudgeModel" 139 ⟨"HistoryJudgeModel", "tryOrders", "(II)Z"⟩) ∈ jW := List.mem_of_getElem? (i := 636) (by decide +kernel)
theorem wl637 : (Cond.instanceMethod ⟨"HistoryJudgeModel", "tryOrders", "(II)Z"⟩) ∈ jW := List.mem_of_getElem? (i := 637) (by decide +kernel)
theorem wl638 : (Cond.code ⟨"HistoryJudgeModel", "tryOrders", "(II)Z"⟩ prog_7_method_37_code 5 (some FieldType.boolean)) ∈ jW := List.mem_of_getElem? (i := 638) (by decide +kernel)
theorem wl639 : (Cond.methodLink "HistoryJudgeModel" 130 ⟨"HistoryJudgeModel", "committed", "()I"⟩) ∈ jW := List.mem_of_getElem? (i := 639) (by decide +kernel)
theorem wl640 : (Cond.instanceMethod ⟨"HistoryJudgeModel", "committed", "()I"⟩) ∈ jW := List.mem_of_getElem? (i := 640) (by decide +kernel)
theorem wl641 : (Cond.code ⟨"HistoryJudgeModel", "committed", "()I"⟩ prog_7_method_35_code 3 (some FieldType.int)) ∈ jW := List.mem_of_getElem? (i := 641) (by decide +kernel)
theorem wl642 : (Cond.methodLink "HistoryJudgeModel" 136 ⟨"HistoryJudgeModel", "runs", "(II)Z"⟩) ∈ jW := List.mem_of_getElem? (i := 642) (by decide +kernel)
theorem wl643 : (Cond.instanceMethod ⟨"HistoryJudgeModel", "runs", "(II)Z"⟩) ∈ jW := List.mem_of_getElem? (i := 643) (by decide +kernel)
theorem wl644 : (Cond.code ⟨"HistoryJudgeModel", "runs", "(II)Z"⟩ prog_7_method_36_code 5 (some FieldType.boolean)) ∈ jW := List.mem_of_getElem? (i := 644) (by decide +kernel)
theorem wl645 : (Cond.methodLink "HistoryJudgeLaw" 93 ⟨"HistoryJudgeModel", "place", "(I)I"⟩) ∈ jW := List.mem_of_getElem? (i := 645) (by decide +kernel)
theorem wl646 : (Cond.instanceMethod ⟨"HistoryJudgeModel", "place", "(I)I"⟩) ∈ jW := List.mem_of_getElem? (i := 646) (by decide +kernel)
theorem wl647 : (Cond.selects "HistoryJudgeModel" ⟨"HistoryJudgeModel", "place", "(I)I"⟩ ⟨"HistoryJudgeModel", "place", "(I)I"⟩) ∈ jW := List.mem_of_getElem? (i := 647) (by decide +kernel)
theorem wl648 : (Cond.code ⟨"HistoryJudgeModel", "place", "(I)I"⟩ prog_7_method_39_code 3 (some FieldType.int)) ∈ jW := List.mem_of_getElem? (i := 648) (by decide +kernel)
theorem wl649 : (Cond.methodLink "HistoryJudgeLaw" 97 ⟨"HistoryJudgeModel", "beginnings", "()I"⟩) ∈ jW := List.mem_of_getElem? (i := 649) (by decide +kernel)
theorem wl650 : (Cond.instanceMethod ⟨"HistoryJudgeModel", "beginnings", "()I"⟩) ∈ jW := List.mem_of_getElem? (i := 650) (by decide +kernel)
theorem wl651 : (Cond.selects "HistoryJudgeModel" ⟨"HistoryJudgeModel", "beginnings", "()I"⟩ ⟨"HistoryJudgeModel", "beginnings", "()I"⟩) ∈ jW := List.mem_of_getElem? (i := 651) (by decide +kernel)
theorem wl652 : (Cond.code ⟨"HistoryJudgeModel", "beginnings", "()I"⟩ prog_7_method_40_code 3 (some FieldType.int)) ∈ jW := List.mem_of_getElem? (i := 652) (by decide +kernel)
theorem wl653 : (Cond.arrayClass FieldType.long) ∈ jW := List.mem_of_getElem? (i := 653) (by decide +kernel)
def jxnst : List Cond := [
  .methodLinkNest "HistoryJudge" 18 ⟨"HistoryJudge$Graph", "<init>", "()V"⟩ "HistoryJudge",
  .methodLinkNest "HistoryJudge" 25 ⟨"HistoryJudge$CycleSearch", "<init>", "()V"⟩ "HistoryJudge",
  .methodLinkNest "HistoryJudge" 32 ⟨"HistoryJudge$SerialSearch", "<init>", "()V"⟩ "HistoryJudge",
  .methodLinkNest "HistoryJudge$Graph" 71 ⟨"HistoryJudge", "only", "(I)I"⟩ "HistoryJudge",
  .methodLinkNest "HistoryJudge$CycleSearch" 54 ⟨"HistoryJudge", "only", "(I)I"⟩ "HistoryJudge",
  .methodLinkNest "HistoryJudge$CycleSearch" 61 ⟨"HistoryJudge", "has", "(II)Z"⟩ "HistoryJudge",
  .methodLinkNest "HistoryJudge$CycleSearch" 65 ⟨"HistoryJudge", "least", "(I)I"⟩ "HistoryJudge",
  .methodLinkNest "HistoryJudge$History" 64 ⟨"HistoryJudge", "only", "(I)I"⟩ "HistoryJudge",
  .methodLinkNest "HistoryJudge$SerialSearch" 105 ⟨"HistoryJudge", "has", "(II)Z"⟩ "HistoryJudge",
  .methodLinkNest "HistoryJudge$SerialSearch" 55 ⟨"HistoryJudge", "only", "(I)I"⟩ "HistoryJudge",
  .methodLinkNest "HistoryJudge$SerialSearch" 52 ⟨"HistoryJudge", "least", "(I)I"⟩ "HistoryJudge"]
theorem nl0 : (Cond.methodLinkNest "HistoryJudge" 18 ⟨"HistoryJudge$Graph", "<init>", "()V"⟩ "HistoryJudge") ∈ jxnst := List.mem_of_getElem? (i := 0) (by decide +kernel)
theorem nl1 : (Cond.methodLinkNest "HistoryJudge" 25 ⟨"HistoryJudge$CycleSearch", "<init>", "()V"⟩ "HistoryJudge") ∈ jxnst := List.mem_of_getElem? (i := 1) (by decide +kernel)
theorem nl2 : (Cond.methodLinkNest "HistoryJudge" 32 ⟨"HistoryJudge$SerialSearch", "<init>", "()V"⟩ "HistoryJudge") ∈ jxnst := List.mem_of_getElem? (i := 2) (by decide +kernel)
theorem nl3 : (Cond.methodLinkNest "HistoryJudge$Graph" 71 ⟨"HistoryJudge", "only", "(I)I"⟩ "HistoryJudge") ∈ jxnst := List.mem_of_getElem? (i := 3) (by decide +kernel)
theorem nl4 : (Cond.methodLinkNest "HistoryJudge$CycleSearch" 54 ⟨"HistoryJudge", "only", "(I)I"⟩ "HistoryJudge") ∈ jxnst := List.mem_of_getElem? (i := 4) (by decide +kernel)
theorem nl5 : (Cond.methodLinkNest "HistoryJudge$CycleSearch" 61 ⟨"HistoryJudge", "has", "(II)Z"⟩ "HistoryJudge") ∈ jxnst := List.mem_of_getElem? (i := 5) (by decide +kernel)
theorem nl6 : (Cond.methodLinkNest "HistoryJudge$CycleSearch" 65 ⟨"HistoryJudge", "least", "(I)I"⟩ "HistoryJudge") ∈ jxnst := List.mem_of_getElem? (i := 6) (by decide +kernel)
theorem nl7 : (Cond.methodLinkNest "HistoryJudge$History" 64 ⟨"HistoryJudge", "only", "(I)I"⟩ "HistoryJudge") ∈ jxnst := List.mem_of_getElem? (i := 7) (by decide +kernel)
theorem nl8 : (Cond.methodLinkNest "HistoryJudge$SerialSearch" 105 ⟨"HistoryJudge", "has", "(II)Z"⟩ "HistoryJudge") ∈ jxnst := List.mem_of_getElem? (i := 8) (by decide +kernel)
theorem nl9 : (Cond.methodLinkNest "HistoryJudge$SerialSearch" 55 ⟨"HistoryJudge", "only", "(I)I"⟩ "HistoryJudge") ∈ jxnst := List.mem_of_getElem? (i := 9) (by decide +kernel)
theorem nl10 : (Cond.methodLinkNest "HistoryJudge$SerialSearch" 52 ⟨"HistoryJudge", "least", "(I)I"⟩ "HistoryJudge") ∈ jxnst := List.mem_of_getElem? (i := 10) (by decide +kernel)
theorem jxnst_kind : ∀ w ∈ jxnst, (∃ (a : String) (i : Nat) (x : MethodName) (k : String), w = .methodLinkNest a i x k) ∨ ∃ (a : String) (i : Nat) (b n d k : String), w = .fieldLinkNest a i b n d k := by
  intro w hw
  simp only [jxnst, List.mem_cons, List.not_mem_nil, or_false] at hw
  rcases hw with rfl | rfl | rfl | rfl | rfl | rfl | rfl | rfl | rfl | rfl | rfl <;> exact Or.inl ⟨_, _, _, _, rfl⟩
end
section
/-! methods: names, bytes, decode rows -/
abbrev y_A_fill : MethodName := ⟨"java/util/Arrays", "fill", "([II)V"⟩
abbrev b_A_fill : ByteArray := prog_15_method_103_code
theorem d_A_fill_0 : decode b_A_fill 0 = .ok (.iconst 0, 1) := by decide +kernel
theorem d_A_fill_1 : decode b_A_fill 1 = .ok (.istore_n 2, 1) := by decide +kernel
theorem d_A_fill_2 : decode b_A_fill 2 = .ok (.aload_n 0, 1) := by decide +kernel
theorem d_A_fill_3 : decode b_A_fill 3 = .ok (.arraylength, 1) := by decide +kernel
theorem d_A_fill_4 : decode b_A_fill 4 = .ok (.istore_n 3, 1) := by decide +kernel
theorem d_A_fill_5 : decode b_A_fill 5 = .ok (.iload_n 2, 1) := by decide +kernel
theorem d_A_fill_6 : decode b_A_fill 6 = .ok (.iload_n 3, 1) := by decide +kernel
theorem d_A_fill_7 : decode b_A_fill 7 = .ok (.if_icmp .ge 13, 3) := by decide +kernel
theorem d_A_fill_10 : decode b_A_fill 10 = .ok (.aload_n 0, 1) := by decide +kernel
theorem d_A_fill_11 : decode b_A_fill 11 = .ok (.iload_n 2, 1) := by decide +kernel
theorem d_A_fill_12 : decode b_A_fill 12 = .ok (.iload_n 1, 1) := by decide +kernel
theorem d_A_fill_13 : decode b_A_fill 13 = .ok (.iastore, 1) := by decide +kernel
theorem d_A_fill_14 : decode b_A_fill 14 = .ok (.iinc 2 1, 3) := by decide +kernel
theorem d_A_fill_17 : decode b_A_fill 17 = .ok (.goto (-12), 3) := by decide +kernel
theorem d_A_fill_20 : decode b_A_fill 20 = .ok (.return_, 1) := by decide +kernel
abbrev y_C_find : MethodName := ⟨"HistoryJudge$CycleSearch", "find", "(LHistoryJudge$Graph;I)I"⟩
abbrev b_C_find : ByteArray := prog_2_method_2_code
theorem d_C_find_0 : decode b_C_find 0 = .ok (.aload_n 0, 1) := by decide +kernel
theorem d_C_find_1 : decode b_C_find 1 = .ok (.aload_n 1, 1) := by decide +kernel
theorem d_C_find_2 : decode b_C_find 2 = .ok (.iload_n 2, 1) := by decide +kernel
theorem d_C_find_3 : decode b_C_find 3 = .ok (.invokevirtual 27, 3) := by decide +kernel
theorem d_C_find_6 : decode b_C_find 6 = .ok (.iload_n 2, 1) := by decide +kernel
theorem d_C_find_7 : decode b_C_find 7 = .ok (.iconst 2, 1) := by decide +kernel
theorem d_C_find_8 : decode b_C_find 8 = .ok (.if_icmp .lt 7, 3) := by decide +kernel
theorem d_C_find_11 : decode b_C_find 11 = .ok (.iconst 1, 1) := by decide +kernel
theorem d_C_find_12 : decode b_C_find 12 = .ok (.goto 4, 3) := by decide +kernel
theorem d_C_find_15 : decode b_C_find 15 = .ok (.iconst 0, 1) := by decide +kernel
theorem d_C_find_16 : decode b_C_find 16 = .ok (.istore_n 3, 1) := by decide +kernel
theorem d_C_find_17 : decode b_C_find 17 = .ok (.iconst 0, 1) := by decide +kernel
theorem d_C_find_18 : decode b_C_find 18 = .ok (.istore 4, 2) := by decide +kernel
theorem d_C_find_20 : decode b_C_find 20 = .ok (.iconst 0, 1) := by decide +kernel
theorem d_C_find_21 : decode b_C_find 21 = .ok (.istore 5, 2) := by decide +kernel
theorem d_C_find_23 : decode b_C_find 23 = .ok (.iconst 0, 1) := by decide +kernel
theorem d_C_find_24 : decode b_C_find 24 = .ok (.istore 6, 2) := by decide +kernel
theorem d_C_find_26 : decode b_C_find 26 = .ok (.iload 6, 2) := by decide +kernel
theorem d_C_find_28 : decode b_C_find 28 = .ok (.bipush 8, 2) := by decide +kernel
theorem d_C_find_30 : decode b_C_find 30 = .ok (.if_icmp .ge 62, 3) := by decide +kernel
theorem d_C_find_33 : decode b_C_find 33 = .ok (.aload_n 0, 1) := by decide +kernel
theorem d_C_find_34 : decode b_C_find 34 = .ok (.iload 6, 2) := by decide +kernel
theorem d_C_find_36 : decode b_C_find 36 = .ok (.invokevirtual 31, 3) := by decide +kernel
theorem d_C_find_39 : decode b_C_find 39 = .ok (.iload_n 3, 1) := by decide +kernel
theorem d_C_find_40 : decode b_C_find 40 = .ok (.ifCond .eq 10, 3) := by decide +kernel
theorem d_C_find_43 : decode b_C_find 43 = .ok (.aload_n 0, 1) := by decide +kernel
theorem d_C_find_44 : decode b_C_find 44 = .ok (.getfield 21, 3) := by decide +kernel
theorem d_C_find_47 : decode b_C_find 47 = .ok (.goto 7, 3) := by decide +kernel
theorem d_C_find_50 : decode b_C_find 50 = .ok (.aload_n 0, 1) := by decide +kernel
theorem d_C_find_51 : decode b_C_find 51 = .ok (.getfield 18, 3) := by decide +kernel
theorem d_C_find_54 : decode b_C_find 54 = .ok (.iload 6, 2) := by decide +kernel
theorem d_C_find_56 : decode b_C_find 56 = .ok (.invokestatic 35, 3) := by decide +kernel
theorem d_C_find_59 : decode b_C_find 59 = .ok (.istore 7, 2) := by decide +kernel
theorem d_C_find_61 : decode b_C_find 61 = .ok (.iload 7, 2) := by decide +kernel
theorem d_C_find_63 : decode b_C_find 63 = .ok (.ifCond .eq 23, 3) := by decide +kernel
theorem d_C_find_66 : decode b_C_find 66 = .ok (.iload 4, 2) := by decide +kernel
theorem d_C_find_68 : decode b_C_find 68 = .ok (.ifCond .eq 10, 3) := by decide +kernel
theorem d_C_find_71 : decode b_C_find 71 = .ok (.iload 7, 2) := by decide +kernel
theorem d_C_find_73 : decode b_C_find 73 = .ok (.iload 4, 2) := by decide +kernel
theorem d_C_find_75 : decode b_C_find 75 = .ok (.if_icmp .ge 11, 3) := by decide +kernel
theorem d_C_find_78 : decode b_C_find 78 = .ok (.iload 7, 2) := by decide +kernel
theorem d_C_find_80 : decode b_C_find 80 = .ok (.istore 4, 2) := by decide +kernel
theorem d_C_find_82 : decode b_C_find 82 = .ok (.iload 6, 2) := by decide +kernel
theorem d_C_find_84 : decode b_C_find 84 = .ok (.istore 5, 2) := by decide +kernel
theorem d_C_find_86 : decode b_C_find 86 = .ok (.iinc 6 1, 3) := by decide +kernel
theorem d_C_find_89 : decode b_C_find 89 = .ok (.goto (-63), 3) := by decide +kernel
theorem d_C_find_92 : decode b_C_find 92 = .ok (.iload 4, 2) := by decide +kernel
theorem d_C_find_94 : decode b_C_find 94 = .ok (.ifCond .eq 18, 3) := by decide +kernel
theorem d_C_find_97 : decode b_C_find 97 = .ok (.aload_n 0, 1) := by decide +kernel
theorem d_C_find_98 : decode b_C_find 98 = .ok (.iload 5, 2) := by decide +kernel
theorem d_C_find_100 : decode b_C_find 100 = .ok (.invokevirtual 31, 3) := by decide +kernel
theorem d_C_find_103 : decode b_C_find 103 = .ok (.aload_n 0, 1) := by decide +kernel
theorem d_C_find_104 : decode b_C_find 104 = .ok (.iload 5, 2) := by decide +kernel
theorem d_C_find_106 : decode b_C_find 106 = .ok (.iload 4, 2) := by decide +kernel
theorem d_C_find_108 : decode b_C_find 108 = .ok (.iload_n 3, 1) := by decide +kernel
theorem d_C_find_109 : decode b_C_find 109 = .ok (.invokevirtual 39, 3) := by decide +kernel
theorem d_C_find_112 : decode b_C_find 112 = .ok (.iload 4, 2) := by decide +kernel
theorem d_C_find_114 : decode b_C_find 114 = .ok (.ireturn, 1) := by decide +kernel
abbrev y_C_init : MethodName := ⟨"HistoryJudge$CycleSearch", "<init>", "()V"⟩
abbrev b_C_init : ByteArray := prog_2_method_1_code
theorem d_C_init_0 : decode b_C_init 0 = .ok (.aload_n 0, 1) := by decide +kernel
theorem d_C_init_1 : decode b_C_init 1 = .ok (.invokespecial 3, 3) := by decide +kernel
theorem d_C_init_4 : decode b_C_init 4 = .ok (.aload_n 0, 1) := by decide +kernel
theorem d_C_init_5 : decode b_C_init 5 = .ok (.bipush 8, 2) := by decide +kernel
theorem d_C_init_7 : decode b_C_init 7 = .ok (.newarray .int, 2) := by decide +kernel
theorem d_C_init_9 : decode b_C_init 9 = .ok (.putfield 9, 3) := by decide +kernel
theorem d_C_init_12 : decode b_C_init 12 = .ok (.aload_n 0, 1) := by decide +kernel
theorem d_C_init_13 : decode b_C_init 13 = .ok (.bipush 8, 2) := by decide +kernel
theorem d_C_init_15 : decode b_C_init 15 = .ok (.newarray .int, 2) := by decide +kernel
theorem d_C_init_17 : decode b_C_init 17 = .ok (.putfield 15, 3) := by decide +kernel
theorem d_C_init_20 : decode b_C_init 20 = .ok (.aload_n 0, 1) := by decide +kernel
theorem d_C_init_21 : decode b_C_init 21 = .ok (.bipush 9, 2) := by decide +kernel
theorem d_C_init_23 : decode b_C_init 23 = .ok (.newarray .int, 2) := by decide +kernel
theorem d_C_init_25 : decode b_C_init 25 = .ok (.putfield 18, 3) := by decide +kernel
theorem d_C_init_28 : decode b_C_init 28 = .ok (.aload_n 0, 1) := by decide +kernel
theorem d_C_init_29 : decode b_C_init 29 = .ok (.bipush 9, 2) := by decide +kernel
theorem d_C_init_31 : decode b_C_init 31 = .ok (.newarray .int, 2) := by decide +kernel
theorem d_C_init_33 : decode b_C_init 33 = .ok (.putfield 21, 3) := by decide +kernel
theorem d_C_init_36 : decode b_C_init 36 = .ok (.aload_n 0, 1) := by decide +kernel
theorem d_C_init_37 : decode b_C_init 37 = .ok (.bipush 8, 2) := by decide +kernel
theorem d_C_init_39 : decode b_C_init 39 = .ok (.newarray .int, 2) := by decide +kernel
theorem d_C_init_41 : decode b_C_init 41 = .ok (.putfield 24, 3) := by decide +kernel
theorem d_C_init_44 : decode b_C_init 44 = .ok (.return_, 1) := by decide +kernel
abbrev y_C_leadingInto : MethodName := ⟨"HistoryJudge$CycleSearch", "leadingInto", "([II)I"⟩
abbrev b_C_leadingInto : ByteArray := prog_2_method_5_code
theorem d_C_leadingInto_0 : decode b_C_leadingInto 0 = .ok (.iconst 0, 1) := by decide +kernel
theorem d_C_leadingInto_1 : decode b_C_leadingInto 1 = .ok (.istore_n 2, 1) := by decide +kernel
theorem d_C_leadingInto_2 : decode b_C_leadingInto 2 = .ok (.iconst 0, 1) := by decide +kernel
theorem d_C_leadingInto_3 : decode b_C_leadingInto 3 = .ok (.istore_n 3, 1) := by decide +kernel
theorem d_C_leadingInto_4 : decode b_C_leadingInto 4 = .ok (.iload_n 3, 1) := by decide +kernel
theorem d_C_leadingInto_5 : decode b_C_leadingInto 5 = .ok (.bipush 8, 2) := by decide +kernel
theorem d_C_leadingInto_7 : decode b_C_leadingInto 7 = .ok (.if_icmp .ge 24, 3) := by decide +kernel
theorem d_C_leadingInto_10 : decode b_C_leadingInto 10 = .ok (.aload_n 0, 1) := by decide +kernel
theorem d_C_leadingInto_11 : decode b_C_leadingInto 11 = .ok (.iload_n 3, 1) := by decide +kernel
theorem d_C_leadingInto_12 : decode b_C_leadingInto 12 = .ok (.iaload, 1) := by decide +kernel
theorem d_C_leadingInto_13 : decode b_C_leadingInto 13 = .ok (.iload_n 1, 1) := by decide +kernel
theorem d_C_leadingInto_14 : decode b_C_leadingInto 14 = .ok (.iand, 1) := by decide +kernel
theorem d_C_leadingInto_15 : decode b_C_leadingInto 15 = .ok (.ifCond .eq 10, 3) := by decide +kernel
theorem d_C_leadingInto_18 : decode b_C_leadingInto 18 = .ok (.iload_n 2, 1) := by decide +kernel
theorem d_C_leadingInto_19 : decode b_C_leadingInto 19 = .ok (.iload_n 3, 1) := by decide +kernel
theorem d_C_leadingInto_20 : decode b_C_leadingInto 20 = .ok (.invokestatic 54, 3) := by decide +kernel
theorem d_C_leadingInto_23 : decode b_C_leadingInto 23 = .ok (.ior, 1) := by decide +kernel
theorem d_C_leadingInto_24 : decode b_C_leadingInto 24 = .ok (.istore_n 2, 1) := by decide +kernel
theorem d_C_leadingInto_25 : decode b_C_leadingInto 25 = .ok (.iinc 3 1, 3) := by decide +kernel
theorem d_C_leadingInto_28 : decode b_C_leadingInto 28 = .ok (.goto (-24), 3) := by decide +kernel
theorem d_C_leadingInto_31 : decode b_C_leadingInto 31 = .ok (.iload_n 2, 1) := by decide +kernel
theorem d_C_leadingInto_32 : decode b_C_leadingInto 32 = .ok (.ireturn, 1) := by decide +kernel
abbrev y_C_measure : MethodName := ⟨"HistoryJudge$CycleSearch", "measure", "(I)V"⟩
abbrev b_C_measure : ByteArray := prog_2_method_4_code
theorem d_C_measure_0 : decode b_C_measure 0 = .ok (.aload_n 0, 1) := by decide +kernel
theorem d_C_measure_1 : decode b_C_measure 1 = .ok (.getfield 18, 3) := by decide +kernel
theorem d_C_measure_4 : decode b_C_measure 4 = .ok (.iconst 0, 1) := by decide +kernel
theorem d_C_measure_5 : decode b_C_measure 5 = .ok (.iload_n 1, 1) := by decide +kernel
theorem d_C_measure_6 : decode b_C_measure 6 = .ok (.invokestatic 54, 3) := by decide +kernel
theorem d_C_measure_9 : decode b_C_measure 9 = .ok (.iastore, 1) := by decide +kernel
theorem d_C_measure_10 : decode b_C_measure 10 = .ok (.aload_n 0, 1) := by decide +kernel
theorem d_C_measure_11 : decode b_C_measure 11 = .ok (.getfield 21, 3) := by decide +kernel
theorem d_C_measure_14 : decode b_C_measure 14 = .ok (.iconst 0, 1) := by decide +kernel
theorem d_C_measure_15 : decode b_C_measure 15 = .ok (.iconst 0, 1) := by decide +kernel
theorem d_C_measure_16 : decode b_C_measure 16 = .ok (.iastore, 1) := by decide +kernel
theorem d_C_measure_17 : decode b_C_measure 17 = .ok (.iconst 1, 1) := by decide +kernel
theorem d_C_measure_18 : decode b_C_measure 18 = .ok (.istore_n 2, 1) := by decide +kernel
theorem d_C_measure_19 : decode b_C_measure 19 = .ok (.iload_n 2, 1) := by decide +kernel
theorem d_C_measure_20 : decode b_C_measure 20 = .ok (.bipush 8, 2) := by decide +kernel
theorem d_C_measure_22 : decode b_C_measure 22 = .ok (.if_icmp .gt 67, 3) := by decide +kernel
theorem d_C_measure_25 : decode b_C_measure 25 = .ok (.aload_n 0, 1) := by decide +kernel
theorem d_C_measure_26 : decode b_C_measure 26 = .ok (.getfield 18, 3) := by decide +kernel
theorem d_C_measure_29 : decode b_C_measure 29 = .ok (.iload_n 2, 1) := by decide +kernel
theorem d_C_measure_30 : decode b_C_measure 30 = .ok (.aload_n 0, 1) := by decide +kernel
theorem d_C_measure_31 : decode b_C_measure 31 = .ok (.getfield 9, 3) := by decide +kernel
theorem d_C_measure_34 : decode b_C_measure 34 = .ok (.aload_n 0, 1) := by decide +kernel
theorem d_C_measure_35 : decode b_C_measure 35 = .ok (.getfield 18, 3) := by decide +kernel
theorem d_C_measure_38 : decode b_C_measure 38 = .ok (.iload_n 2, 1) := by decide +kernel
theorem d_C_measure_39 : decode b_C_measure 39 = .ok (.iconst 1, 1) := by decide +kernel
theorem d_C_measure_40 : decode b_C_measure 40 = .ok (.isub, 1) := by decide +kernel
theorem d_C_measure_41 : decode b_C_measure 41 = .ok (.iaload, 1) := by decide +kernel
theorem d_C_measure_42 : decode b_C_measure 42 = .ok (.invokestatic 58, 3) := by decide +kernel
theorem d_C_measure_45 : decode b_C_measure 45 = .ok (.iastore, 1) := by decide +kernel
theorem d_C_measure_46 : decode b_C_measure 46 = .ok (.aload_n 0, 1) := by decide +kernel
theorem d_C_measure_47 : decode b_C_measure 47 = .ok (.getfield 21, 3) := by decide +kernel
theorem d_C_measure_50 : decode b_C_measure 50 = .ok (.iload_n 2, 1) := by decide +kernel
theorem d_C_measure_51 : decode b_C_measure 51 = .ok (.aload_n 0, 1) := by decide +kernel
theorem d_C_measure_52 : decode b_C_measure 52 = .ok (.getfield 9, 3) := by decide +kernel
theorem d_C_measure_55 : decode b_C_measure 55 = .ok (.aload_n 0, 1) := by decide +kernel
theorem d_C_measure_56 : decode b_C_measure 56 = .ok (.getfield 21, 3) := by decide +kernel
theorem d_C_measure_59 : decode b_C_measure 59 = .ok (.iload_n 2, 1) := by decide +kernel
theorem d_C_measure_60 : decode b_C_measure 60 = .ok (.iconst 1, 1) := by decide +kernel
theorem d_C_measure_61 : decode b_C_measure 61 = .ok (.isub, 1) := by decide +kernel
theorem d_C_measure_62 : decode b_C_measure 62 = .ok (.iaload, 1) := by decide +kernel
theorem d_C_measure_63 : decode b_C_measure 63 = .ok (.invokestatic 58, 3) := by decide +kernel
theorem d_C_measure_66 : decode b_C_measure 66 = .ok (.aload_n 0, 1) := by decide +kernel
theorem d_C_measure_67 : decode b_C_measure 67 = .ok (.getfield 15, 3) := by decide +kernel
theorem d_C_measure_70 : decode b_C_measure 70 = .ok (.aload_n 0, 1) := by decide +kernel
theorem d_C_measure_71 : decode b_C_measure 71 = .ok (.getfield 18, 3) := by decide +kernel
theorem d_C_measure_74 : decode b_C_measure 74 = .ok (.iload_n 2, 1) := by decide +kernel
theorem d_C_measure_75 : decode b_C_measure 75 = .ok (.iconst 1, 1) := by decide +kernel
theorem d_C_measure_76 : decode b_C_measure 76 = .ok (.isub, 1) := by decide +kernel
theorem d_C_measure_77 : decode b_C_measure 77 = .ok (.iaload, 1) := by decide +kernel
theorem d_C_measure_78 : decode b_C_measure 78 = .ok (.invokestatic 58, 3) := by decide +kernel
theorem d_C_measure_81 : decode b_C_measure 81 = .ok (.ior, 1) := by decide +kernel
theorem d_C_measure_82 : decode b_C_measure 82 = .ok (.iastore, 1) := by decide +kernel
theorem d_C_measure_83 : decode b_C_measure 83 = .ok (.iinc 2 1, 3) := by decide +kernel
theorem d_C_measure_86 : decode b_C_measure 86 = .ok (.goto (-67), 3) := by decide +kernel
theorem d_C_measure_89 : decode b_C_measure 89 = .ok (.return_, 1) := by decide +kernel
abbrev y_C_shortest : MethodName := ⟨"HistoryJudge$CycleSearch", "shortest", "([II)I"⟩
abbrev b_C_shortest : ByteArray := prog_2_method_6_code
theorem d_C_shortest_0 : decode b_C_shortest 0 = .ok (.iconst 2, 1) := by decide +kernel
theorem d_C_shortest_1 : decode b_C_shortest 1 = .ok (.istore_n 2, 1) := by decide +kernel
theorem d_C_shortest_2 : decode b_C_shortest 2 = .ok (.iload_n 2, 1) := by decide +kernel
theorem d_C_shortest_3 : decode b_C_shortest 3 = .ok (.bipush 8, 2) := by decide +kernel
theorem d_C_shortest_5 : decode b_C_shortest 5 = .ok (.if_icmp .gt 21, 3) := by decide +kernel
theorem d_C_shortest_8 : decode b_C_shortest 8 = .ok (.aload_n 0, 1) := by decide +kernel
theorem d_C_shortest_9 : decode b_C_shortest 9 = .ok (.iload_n 2, 1) := by decide +kernel
theorem d_C_shortest_10 : decode b_C_shortest 10 = .ok (.iaload, 1) := by decide +kernel
theorem d_C_shortest_11 : decode b_C_shortest 11 = .ok (.iload_n 1, 1) := by decide +kernel
theorem d_C_shortest_12 : decode b_C_shortest 12 = .ok (.invokestatic 61, 3) := by decide +kernel
theorem d_C_shortest_15 : decode b_C_shortest 15 = .ok (.ifCond .eq 5, 3) := by decide +kernel
theorem d_C_shortest_18 : decode b_C_shortest 18 = .ok (.iload_n 2, 1) := by decide +kernel
theorem d_C_shortest_19 : decode b_C_shortest 19 = .ok (.ireturn, 1) := by decide +kernel
theorem d_C_shortest_20 : decode b_C_shortest 20 = .ok (.iinc 2 1, 3) := by decide +kernel
theorem d_C_shortest_23 : decode b_C_shortest 23 = .ok (.goto (-21), 3) := by decide +kernel
theorem d_C_shortest_26 : decode b_C_shortest 26 = .ok (.iconst 0, 1) := by decide +kernel
theorem d_C_shortest_27 : decode b_C_shortest 27 = .ok (.ireturn, 1) := by decide +kernel
abbrev y_C_sortEdges : MethodName := ⟨"HistoryJudge$CycleSearch", "sortEdges", "(LHistoryJudge$Graph;I)V"⟩
abbrev b_C_sortEdges : ByteArray := prog_2_method_3_code
theorem d_C_sortEdges_0 : decode b_C_sortEdges 0 = .ok (.iconst 0, 1) := by decide +kernel
theorem d_C_sortEdges_1 : decode b_C_sortEdges 1 = .ok (.istore_n 3, 1) := by decide +kernel
theorem d_C_sortEdges_2 : decode b_C_sortEdges 2 = .ok (.iload_n 3, 1) := by decide +kernel
theorem d_C_sortEdges_3 : decode b_C_sortEdges 3 = .ok (.bipush 8, 2) := by decide +kernel
theorem d_C_sortEdges_5 : decode b_C_sortEdges 5 = .ok (.if_icmp .ge 73, 3) := by decide +kernel
theorem d_C_sortEdges_8 : decode b_C_sortEdges 8 = .ok (.iload_n 2, 1) := by decide +kernel
theorem d_C_sortEdges_9 : decode b_C_sortEdges 9 = .ok (.iconst 1, 1) := by decide +kernel
theorem d_C_sortEdges_10 : decode b_C_sortEdges 10 = .ok (.if_icmp .lt 12, 3) := by decide +kernel
theorem d_C_sortEdges_13 : decode b_C_sortEdges 13 = .ok (.aload_n 1, 1) := by decide +kernel
theorem d_C_sortEdges_14 : decode b_C_sortEdges 14 = .ok (.getfield 43, 3) := by decide +kernel
theorem d_C_sortEdges_17 : decode b_C_sortEdges 17 = .ok (.iload_n 3, 1) := by decide +kernel
theorem d_C_sortEdges_18 : decode b_C_sortEdges 18 = .ok (.iaload, 1) := by decide +kernel
theorem d_C_sortEdges_19 : decode b_C_sortEdges 19 = .ok (.goto 4, 3) := by decide +kernel
theorem d_C_sortEdges_22 : decode b_C_sortEdges 22 = .ok (.iconst 0, 1) := by decide +kernel
theorem d_C_sortEdges_23 : decode b_C_sortEdges 23 = .ok (.istore 4, 2) := by decide +kernel
theorem d_C_sortEdges_25 : decode b_C_sortEdges 25 = .ok (.iload_n 2, 1) := by decide +kernel
theorem d_C_sortEdges_26 : decode b_C_sortEdges 26 = .ok (.iconst 3, 1) := by decide +kernel
theorem d_C_sortEdges_27 : decode b_C_sortEdges 27 = .ok (.if_icmp .lt 12, 3) := by decide +kernel
theorem d_C_sortEdges_30 : decode b_C_sortEdges 30 = .ok (.aload_n 1, 1) := by decide +kernel
theorem d_C_sortEdges_31 : decode b_C_sortEdges 31 = .ok (.getfield 48, 3) := by decide +kernel
theorem d_C_sortEdges_34 : decode b_C_sortEdges 34 = .ok (.iload_n 3, 1) := by decide +kernel
theorem d_C_sortEdges_35 : decode b_C_sortEdges 35 = .ok (.iaload, 1) := by decide +kernel
theorem d_C_sortEdges_36 : decode b_C_sortEdges 36 = .ok (.goto 4, 3) := by decide +kernel
theorem d_C_sortEdges_39 : decode b_C_sortEdges 39 = .ok (.iconst 0, 1) := by decide +kernel
theorem d_C_sortEdges_40 : decode b_C_sortEdges 40 = .ok (.istore 5, 2) := by decide +kernel
theorem d_C_sortEdges_42 : decode b_C_sortEdges 42 = .ok (.aload_n 0, 1) := by decide +kernel
theorem d_C_sortEdges_43 : decode b_C_sortEdges 43 = .ok (.getfield 9, 3) := by decide +kernel
theorem d_C_sortEdges_46 : decode b_C_sortEdges 46 = .ok (.iload_n 3, 1) := by decide +kernel
theorem d_C_sortEdges_47 : decode b_C_sortEdges 47 = .ok (.aload_n 1, 1) := by decide +kernel
theorem d_C_sortEdges_48 : decode b_C_sortEdges 48 = .ok (.getfield 51, 3) := by decide +kernel
theorem d_C_sortEdges_51 : decode b_C_sortEdges 51 = .ok (.iload_n 3, 1) := by decide +kernel
theorem d_C_sortEdges_52 : decode b_C_sortEdges 52 = .ok (.iaload, 1) := by decide +kernel
theorem d_C_sortEdges_53 : decode b_C_sortEdges 53 = .ok (.iload 4, 2) := by decide +kernel
theorem d_C_sortEdges_55 : decode b_C_sortEdges 55 = .ok (.ior, 1) := by decide +kernel
theorem d_C_sortEdges_56 : decode b_C_sortEdges 56 = .ok (.iload 5, 2) := by decide +kernel
theorem d_C_sortEdges_58 : decode b_C_sortEdges 58 = .ok (.ior, 1) := by decide +kernel
theorem d_C_sortEdges_59 : decode b_C_sortEdges 59 = .ok (.iastore, 1) := by decide +kernel
theorem d_C_sortEdges_60 : decode b_C_sortEdges 60 = .ok (.aload_n 0, 1) := by decide +kernel
theorem d_C_sortEdges_61 : decode b_C_sortEdges 61 = .ok (.getfield 15, 3) := by decide +kernel
theorem d_C_sortEdges_64 : decode b_C_sortEdges 64 = .ok (.iload_n 3, 1) := by decide +kernel
theorem d_C_sortEdges_65 : decode b_C_sortEdges 65 = .ok (.aload_n 1, 1) := by decide +kernel
theorem d_C_sortEdges_66 : decode b_C_sortEdges 66 = .ok (.getfield 48, 3) := by decide +kernel
theorem d_C_sortEdges_69 : decode b_C_sortEdges 69 = .ok (.iload_n 3, 1) := by decide +kernel
theorem d_C_sortEdges_70 : decode b_C_sortEdges 70 = .ok (.iaload, 1) := by decide +kernel
theorem d_C_sortEdges_71 : decode b_C_sortEdges 71 = .ok (.iastore, 1) := by decide +kernel
theorem d_C_sortEdges_72 : decode b_C_sortEdges 72 = .ok (.iinc 3 1, 3) := by decide +kernel
theorem d_C_sortEdges_75 : decode b_C_sortEdges 75 = .ok (.goto (-73), 3) := by decide +kernel
theorem d_C_sortEdges_78 : decode b_C_sortEdges 78 = .ok (.return_, 1) := by decide +kernel
abbrev y_C_trace : MethodName := ⟨"HistoryJudge$CycleSearch", "trace", "(IIZ)V"⟩
abbrev b_C_trace : ByteArray := prog_2_method_7_code
theorem d_C_trace_0 : decode b_C_trace 0 = .ok (.iload_n 3, 1) := by decide +kernel
theorem d_C_trace_1 : decode b_C_trace 1 = .ok (.istore 4, 2) := by decide +kernel
theorem d_C_trace_3 : decode b_C_trace 3 = .ok (.iload_n 3, 1) := by decide +kernel
theorem d_C_trace_4 : decode b_C_trace 4 = .ok (.ifCond .ne 7, 3) := by decide +kernel
theorem d_C_trace_7 : decode b_C_trace 7 = .ok (.iconst 1, 1) := by decide +kernel
theorem d_C_trace_8 : decode b_C_trace 8 = .ok (.goto 4, 3) := by decide +kernel
theorem d_C_trace_11 : decode b_C_trace 11 = .ok (.iconst 0, 1) := by decide +kernel
theorem d_C_trace_12 : decode b_C_trace 12 = .ok (.istore 5, 2) := by decide +kernel
theorem d_C_trace_14 : decode b_C_trace 14 = .ok (.aload_n 0, 1) := by decide +kernel
theorem d_C_trace_15 : decode b_C_trace 15 = .ok (.getfield 24, 3) := by decide +kernel
theorem d_C_trace_18 : decode b_C_trace 18 = .ok (.iconst 0, 1) := by decide +kernel
theorem d_C_trace_19 : decode b_C_trace 19 = .ok (.iload_n 1, 1) := by decide +kernel
theorem d_C_trace_20 : decode b_C_trace 20 = .ok (.iastore, 1) := by decide +kernel
theorem d_C_trace_21 : decode b_C_trace 21 = .ok (.iconst 1, 1) := by decide +kernel
theorem d_C_trace_22 : decode b_C_trace 22 = .ok (.istore 6, 2) := by decide +kernel
theorem d_C_trace_24 : decode b_C_trace 24 = .ok (.iload 6, 2) := by decide +kernel
theorem d_C_trace_26 : decode b_C_trace 26 = .ok (.iload_n 2, 1) := by decide +kernel
theorem d_C_trace_27 : decode b_C_trace 27 = .ok (.if_icmp .ge 147, 3) := by decide +kernel
theorem d_C_trace_30 : decode b_C_trace 30 = .ok (.aload_n 0, 1) := by decide +kernel
theorem d_C_trace_31 : decode b_C_trace 31 = .ok (.getfield 24, 3) := by decide +kernel
theorem d_C_trace_34 : decode b_C_trace 34 = .ok (.iload 6, 2) := by decide +kernel
theorem d_C_trace_36 : decode b_C_trace 36 = .ok (.iconst 1, 1) := by decide +kernel
theorem d_C_trace_37 : decode b_C_trace 37 = .ok (.isub, 1) := by decide +kernel
theorem d_C_trace_38 : decode b_C_trace 38 = .ok (.iaload, 1) := by decide +kernel
theorem d_C_trace_39 : decode b_C_trace 39 = .ok (.istore 7, 2) := by decide +kernel
theorem d_C_trace_41 : decode b_C_trace 41 = .ok (.iload_n 2, 1) := by decide +kernel
theorem d_C_trace_42 : decode b_C_trace 42 = .ok (.iload 6, 2) := by decide +kernel
theorem d_C_trace_44 : decode b_C_trace 44 = .ok (.isub, 1) := by decide +kernel
theorem d_C_trace_45 : decode b_C_trace 45 = .ok (.istore 8, 2) := by decide +kernel
theorem d_C_trace_47 : decode b_C_trace 47 = .ok (.iload 4, 2) := by decide +kernel
theorem d_C_trace_49 : decode b_C_trace 49 = .ok (.ifCond .eq 21, 3) := by decide +kernel
theorem d_C_trace_52 : decode b_C_trace 52 = .ok (.aload_n 0, 1) := by decide +kernel
theorem d_C_trace_53 : decode b_C_trace 53 = .ok (.getfield 9, 3) := by decide +kernel
theorem d_C_trace_56 : decode b_C_trace 56 = .ok (.iload 7, 2) := by decide +kernel
theorem d_C_trace_58 : decode b_C_trace 58 = .ok (.iaload, 1) := by decide +kernel
theorem d_C_trace_59 : decode b_C_trace 59 = .ok (.aload_n 0, 1) := by decide +kernel
theorem d_C_trace_60 : decode b_C_trace 60 = .ok (.getfield 21, 3) := by decide +kernel
theorem d_C_trace_63 : decode b_C_trace 63 = .ok (.iload 8, 2) := by decide +kernel
theorem d_C_trace_65 : decode b_C_trace 65 = .ok (.iaload, 1) := by decide +kernel
theorem d_C_trace_66 : decode b_C_trace 66 = .ok (.iand, 1) := by decide +kernel
theorem d_C_trace_67 : decode b_C_trace 67 = .ok (.goto 4, 3) := by decide +kernel
theorem d_C_trace_70 : decode b_C_trace 70 = .ok (.iconst 0, 1) := by decide +kernel
theorem d_C_trace_71 : decode b_C_trace 71 = .ok (.istore 9, 2) := by decide +kernel
theorem d_C_trace_73 : decode b_C_trace 73 = .ok (.iload 4, 2) := by decide +kernel
theorem d_C_trace_75 : decode b_C_trace 75 = .ok (.ifCond .eq 21, 3) := by decide +kernel
theorem d_C_trace_78 : decode b_C_trace 78 = .ok (.aload_n 0, 1) := by decide +kernel
theorem d_C_trace_79 : decode b_C_trace 79 = .ok (.getfield 15, 3) := by decide +kernel
theorem d_C_trace_82 : decode b_C_trace 82 = .ok (.iload 7, 2) := by decide +kernel
theorem d_C_trace_84 : decode b_C_trace 84 = .ok (.iaload, 1) := by decide +kernel
theorem d_C_trace_85 : decode b_C_trace 85 = .ok (.aload_n 0, 1) := by decide +kernel
theorem d_C_trace_86 : decode b_C_trace 86 = .ok (.getfield 18, 3) := by decide +kernel
theorem d_C_trace_89 : decode b_C_trace 89 = .ok (.iload 8, 2) := by decide +kernel
theorem d_C_trace_91 : decode b_C_trace 91 = .ok (.iaload, 1) := by decide +kernel
theorem d_C_trace_92 : decode b_C_trace 92 = .ok (.iand, 1) := by decide +kernel
theorem d_C_trace_93 : decode b_C_trace 93 = .ok (.goto 4, 3) := by decide +kernel
theorem d_C_trace_96 : decode b_C_trace 96 = .ok (.iconst 0, 1) := by decide +kernel
theorem d_C_trace_97 : decode b_C_trace 97 = .ok (.istore 10, 2) := by decide +kernel
theorem d_C_trace_99 : decode b_C_trace 99 = .ok (.iload 5, 2) := by decide +kernel
theorem d_C_trace_101 : decode b_C_trace 101 = .ok (.ifCond .eq 21, 3) := by decide +kernel
theorem d_C_trace_104 : decode b_C_trace 104 = .ok (.aload_n 0, 1) := by decide +kernel
theorem d_C_trace_105 : decode b_C_trace 105 = .ok (.getfield 9, 3) := by decide +kernel
theorem d_C_trace_108 : decode b_C_trace 108 = .ok (.iload 7, 2) := by decide +kernel
theorem d_C_trace_110 : decode b_C_trace 110 = .ok (.iaload, 1) := by decide +kernel
theorem d_C_trace_111 : decode b_C_trace 111 = .ok (.aload_n 0, 1) := by decide +kernel
theorem d_C_trace_112 : decode b_C_trace 112 = .ok (.getfield 18, 3) := by decide +kernel
theorem d_C_trace_115 : decode b_C_trace 115 = .ok (.iload 8, 2) := by decide +kernel
theorem d_C_trace_117 : decode b_C_trace 117 = .ok (.iaload, 1) := by decide +kernel
theorem d_C_trace_118 : decode b_C_trace 118 = .ok (.iand, 1) := by decide +kernel
theorem d_C_trace_119 : decode b_C_trace 119 = .ok (.goto 4, 3) := by decide +kernel
theorem d_C_trace_122 : decode b_C_trace 122 = .ok (.iconst 0, 1) := by decide +kernel
theorem d_C_trace_123 : decode b_C_trace 123 = .ok (.istore 11, 2) := by decide +kernel
theorem d_C_trace_125 : decode b_C_trace 125 = .ok (.iload 9, 2) := by decide +kernel
theorem d_C_trace_127 : decode b_C_trace 127 = .ok (.iload 10, 2) := by decide +kernel
theorem d_C_trace_129 : decode b_C_trace 129 = .ok (.ior, 1) := by decide +kernel
theorem d_C_trace_130 : decode b_C_trace 130 = .ok (.iload 11, 2) := by decide +kernel
theorem d_C_trace_132 : decode b_C_trace 132 = .ok (.ior, 1) := by decide +kernel
theorem d_C_trace_133 : decode b_C_trace 133 = .ok (.invokestatic 65, 3) := by decide +kernel
theorem d_C_trace_136 : decode b_C_trace 136 = .ok (.istore 12, 2) := by decide +kernel
theorem d_C_trace_138 : decode b_C_trace 138 = .ok (.iload 9, 2) := by decide +kernel
theorem d_C_trace_140 : decode b_C_trace 140 = .ok (.iload 12, 2) := by decide +kernel
theorem d_C_trace_142 : decode b_C_trace 142 = .ok (.invokestatic 61, 3) := by decide +kernel
theorem d_C_trace_145 : decode b_C_trace 145 = .ok (.istore 4, 2) := by decide +kernel
theorem d_C_trace_147 : decode b_C_trace 147 = .ok (.iload 10, 2) := by decide +kernel
theorem d_C_trace_149 : decode b_C_trace 149 = .ok (.iload 11, 2) := by decide +kernel
theorem d_C_trace_151 : decode b_C_trace 151 = .ok (.ior, 1) := by decide +kernel
theorem d_C_trace_152 : decode b_C_trace 152 = .ok (.iload 12, 2) := by decide +kernel
theorem d_C_trace_154 : decode b_C_trace 154 = .ok (.invokestatic 61, 3) := by decide +kernel
theorem d_C_trace_157 : decode b_C_trace 157 = .ok (.istore 5, 2) := by decide +kernel
theorem d_C_trace_159 : decode b_C_trace 159 = .ok (.aload_n 0, 1) := by decide +kernel
theorem d_C_trace_160 : decode b_C_trace 160 = .ok (.getfield 24, 3) := by decide +kernel
theorem d_C_trace_163 : decode b_C_trace 163 = .ok (.iload 6, 2) := by decide +kernel
theorem d_C_trace_165 : decode b_C_trace 165 = .ok (.iload 12, 2) := by decide +kernel
theorem d_C_trace_167 : decode b_C_trace 167 = .ok (.iastore, 1) := by decide +kernel
theorem d_C_trace_168 : decode b_C_trace 168 = .ok (.iinc 6 1, 3) := by decide +kernel
theorem d_C_trace_171 : decode b_C_trace 171 = .ok (.goto (-147), 3) := by decide +kernel
theorem d_C_trace_174 : decode b_C_trace 174 = .ok (.return_, 1) := by decide +kernel
abbrev y_G_draw : MethodName := ⟨"HistoryJudge$Graph", "draw", "(LHistoryJudge$History;)V"⟩
abbrev b_G_draw : ByteArray := prog_3_method_2_code
theorem d_G_draw_0 : decode b_G_draw 0 = .ok (.aload_n 0, 1) := by decide +kernel
theorem d_G_draw_1 : decode b_G_draw 1 = .ok (.getfield 9, 3) := by decide +kernel
theorem d_G_draw_4 : decode b_G_draw 4 = .ok (.iconst 0, 1) := by decide +kernel
theorem d_G_draw_5 : decode b_G_draw 5 = .ok (.invokestatic 21, 3) := by decide +kernel
theorem d_G_draw_8 : decode b_G_draw 8 = .ok (.aload_n 0, 1) := by decide +kernel
theorem d_G_draw_9 : decode b_G_draw 9 = .ok (.getfield 15, 3) := by decide +kernel
theorem d_G_draw_12 : decode b_G_draw 12 = .ok (.iconst 0, 1) := by decide +kernel
theorem d_G_draw_13 : decode b_G_draw 13 = .ok (.invokestatic 21, 3) := by decide +kernel
theorem d_G_draw_16 : decode b_G_draw 16 = .ok (.aload_n 0, 1) := by decide +kernel
theorem d_G_draw_17 : decode b_G_draw 17 = .ok (.getfield 18, 3) := by decide +kernel
theorem d_G_draw_20 : decode b_G_draw 20 = .ok (.iconst 0, 1) := by decide +kernel
theorem d_G_draw_21 : decode b_G_draw 21 = .ok (.invokestatic 21, 3) := by decide +kernel
theorem d_G_draw_24 : decode b_G_draw 24 = .ok (.iconst 0, 1) := by decide +kernel
theorem d_G_draw_25 : decode b_G_draw 25 = .ok (.istore_n 2, 1) := by decide +kernel
theorem d_G_draw_26 : decode b_G_draw 26 = .ok (.iload_n 2, 1) := by decide +kernel
theorem d_G_draw_27 : decode b_G_draw 27 = .ok (.bipush 6, 2) := by decide +kernel
theorem d_G_draw_29 : decode b_G_draw 29 = .ok (.if_icmp .ge 15, 3) := by decide +kernel
theorem d_G_draw_32 : decode b_G_draw 32 = .ok (.aload_n 0, 1) := by decide +kernel
theorem d_G_draw_33 : decode b_G_draw 33 = .ok (.aload_n 1, 1) := by decide +kernel
theorem d_G_draw_34 : decode b_G_draw 34 = .ok (.iload_n 2, 1) := by decide +kernel
theorem d_G_draw_35 : decode b_G_draw 35 = .ok (.invokevirtual 27, 3) := by decide +kernel
theorem d_G_draw_38 : decode b_G_draw 38 = .ok (.iinc 2 1, 3) := by decide +kernel
theorem d_G_draw_41 : decode b_G_draw 41 = .ok (.goto (-15), 3) := by decide +kernel
theorem d_G_draw_44 : decode b_G_draw 44 = .ok (.iconst 0, 1) := by decide +kernel
theorem d_G_draw_45 : decode b_G_draw 45 = .ok (.istore_n 2, 1) := by decide +kernel
theorem d_G_draw_46 : decode b_G_draw 46 = .ok (.iload_n 2, 1) := by decide +kernel
theorem d_G_draw_47 : decode b_G_draw 47 = .ok (.aload_n 1, 1) := by decide +kernel
theorem d_G_draw_48 : decode b_G_draw 48 = .ok (.getfield 31, 3) := by decide +kernel
theorem d_G_draw_51 : decode b_G_draw 51 = .ok (.if_icmp .ge 28, 3) := by decide +kernel
theorem d_G_draw_54 : decode b_G_draw 54 = .ok (.aload_n 1, 1) := by decide +kernel
theorem d_G_draw_55 : decode b_G_draw 55 = .ok (.aload_n 1, 1) := by decide +kernel
theorem d_G_draw_56 : decode b_G_draw 56 = .ok (.getfield 37, 3) := by decide +kernel
theorem d_G_draw_59 : decode b_G_draw 59 = .ok (.iload_n 2, 1) := by decide +kernel
theorem d_G_draw_60 : decode b_G_draw 60 = .ok (.iaload, 1) := by decide +kernel
theorem d_G_draw_61 : decode b_G_draw 61 = .ok (.invokevirtual 40, 3) := by decide +kernel
theorem d_G_draw_64 : decode b_G_draw 64 = .ok (.ifCond .eq 9, 3) := by decide +kernel
theorem d_G_draw_67 : decode b_G_draw 67 = .ok (.aload_n 0, 1) := by decide +kernel
theorem d_G_draw_68 : decode b_G_draw 68 = .ok (.aload_n 1, 1) := by decide +kernel
theorem d_G_draw_69 : decode b_G_draw 69 = .ok (.iload_n 2, 1) := by decide +kernel
theorem d_G_draw_70 : decode b_G_draw 70 = .ok (.invokevirtual 44, 3) := by decide +kernel
theorem d_G_draw_73 : decode b_G_draw 73 = .ok (.iinc 2 1, 3) := by decide +kernel
theorem d_G_draw_76 : decode b_G_draw 76 = .ok (.goto (-30), 3) := by decide +kernel
theorem d_G_draw_79 : decode b_G_draw 79 = .ok (.return_, 1) := by decide +kernel
abbrev y_G_drawOrder : MethodName := ⟨"HistoryJudge$Graph", "drawOrder", "(LHistoryJudge$History;I)V"⟩
abbrev b_G_drawOrder : ByteArray := prog_3_method_3_code
theorem d_G_drawOrder_0 : decode b_G_drawOrder 0 = .ok (.aload_n 1, 1) := by decide +kernel
theorem d_G_drawOrder_1 : decode b_G_drawOrder 1 = .ok (.getfield 47, 3) := by decide +kernel
theorem d_G_drawOrder_4 : decode b_G_drawOrder 4 = .ok (.iload_n 2, 1) := by decide +kernel
theorem d_G_drawOrder_5 : decode b_G_drawOrder 5 = .ok (.aaload, 1) := by decide +kernel
theorem d_G_drawOrder_6 : decode b_G_drawOrder 6 = .ok (.astore_n 3, 1) := by decide +kernel
theorem d_G_drawOrder_7 : decode b_G_drawOrder 7 = .ok (.iconst 1, 1) := by decide +kernel
theorem d_G_drawOrder_8 : decode b_G_drawOrder 8 = .ok (.istore 4, 2) := by decide +kernel
theorem d_G_drawOrder_10 : decode b_G_drawOrder 10 = .ok (.iload 4, 2) := by decide +kernel
theorem d_G_drawOrder_12 : decode b_G_drawOrder 12 = .ok (.aload_n 1, 1) := by decide +kernel
theorem d_G_drawOrder_13 : decode b_G_drawOrder 13 = .ok (.getfield 51, 3) := by decide +kernel
theorem d_G_drawOrder_16 : decode b_G_drawOrder 16 = .ok (.iload_n 2, 1) := by decide +kernel
theorem d_G_drawOrder_17 : decode b_G_drawOrder 17 = .ok (.iaload, 1) := by decide +kernel
theorem d_G_drawOrder_18 : decode b_G_drawOrder 18 = .ok (.if_icmp .ge 36, 3) := by decide +kernel
theorem d_G_drawOrder_21 : decode b_G_drawOrder 21 = .ok (.aload_n 0, 1) := by decide +kernel
theorem d_G_drawOrder_22 : decode b_G_drawOrder 22 = .ok (.getfield 9, 3) := by decide +kernel
theorem d_G_drawOrder_25 : decode b_G_drawOrder 25 = .ok (.aload_n 1, 1) := by decide +kernel
theorem d_G_drawOrder_26 : decode b_G_drawOrder 26 = .ok (.getfield 54, 3) := by decide +kernel
theorem d_G_drawOrder_29 : decode b_G_drawOrder 29 = .ok (.aload_n 3, 1) := by decide +kernel
theorem d_G_drawOrder_30 : decode b_G_drawOrder 30 = .ok (.iload 4, 2) := by decide +kernel
theorem d_G_drawOrder_32 : decode b_G_drawOrder 32 = .ok (.iconst 1, 1) := by decide +kernel
theorem d_G_drawOrder_33 : decode b_G_drawOrder 33 = .ok (.isub, 1) := by decide +kernel
theorem d_G_drawOrder_34 : decode b_G_drawOrder 34 = .ok (.iaload, 1) := by decide +kernel
theorem d_G_drawOrder_35 : decode b_G_drawOrder 35 = .ok (.iaload, 1) := by decide +kernel
theorem d_G_drawOrder_36 : decode b_G_drawOrder 36 = .ok (.aload_n 1, 1) := by decide +kernel
theorem d_G_drawOrder_37 : decode b_G_drawOrder 37 = .ok (.getfield 54, 3) := by decide +kernel
theorem d_G_drawOrder_40 : decode b_G_drawOrder 40 = .ok (.aload_n 3, 1) := by decide +kernel
theorem d_G_drawOrder_41 : decode b_G_drawOrder 41 = .ok (.iload 4, 2) := by decide +kernel
theorem d_G_drawOrder_43 : decode b_G_drawOrder 43 = .ok (.iaload, 1) := by decide +kernel
theorem d_G_drawOrder_44 : decode b_G_drawOrder 44 = .ok (.iaload, 1) := by decide +kernel
theorem d_G_drawOrder_45 : decode b_G_drawOrder 45 = .ok (.invokestatic 57, 3) := by decide +kernel
theorem d_G_drawOrder_48 : decode b_G_drawOrder 48 = .ok (.iinc 4 1, 3) := by decide +kernel
theorem d_G_drawOrder_51 : decode b_G_drawOrder 51 = .ok (.goto (-41), 3) := by decide +kernel
theorem d_G_drawOrder_54 : decode b_G_drawOrder 54 = .ok (.return_, 1) := by decide +kernel
abbrev y_G_drawRead : MethodName := ⟨"HistoryJudge$Graph", "drawRead", "(LHistoryJudge$History;I)V"⟩
abbrev b_G_drawRead : ByteArray := prog_3_method_4_code
theorem d_G_drawRead_0 : decode b_G_drawRead 0 = .ok (.aload_n 1, 1) := by decide +kernel
theorem d_G_drawRead_1 : decode b_G_drawRead 1 = .ok (.getfield 37, 3) := by decide +kernel
theorem d_G_drawRead_4 : decode b_G_drawRead 4 = .ok (.iload_n 2, 1) := by decide +kernel
theorem d_G_drawRead_5 : decode b_G_drawRead 5 = .ok (.iaload, 1) := by decide +kernel
theorem d_G_drawRead_6 : decode b_G_drawRead 6 = .ok (.istore_n 3, 1) := by decide +kernel
theorem d_G_drawRead_7 : decode b_G_drawRead 7 = .ok (.aload_n 1, 1) := by decide +kernel
theorem d_G_drawRead_8 : decode b_G_drawRead 8 = .ok (.getfield 61, 3) := by decide +kernel
theorem d_G_drawRead_11 : decode b_G_drawRead 11 = .ok (.iload_n 2, 1) := by decide +kernel
theorem d_G_drawRead_12 : decode b_G_drawRead 12 = .ok (.iaload, 1) := by decide +kernel
theorem d_G_drawRead_13 : decode b_G_drawRead 13 = .ok (.istore 4, 2) := by decide +kernel
theorem d_G_drawRead_15 : decode b_G_drawRead 15 = .ok (.iload 4, 2) := by decide +kernel
theorem d_G_drawRead_17 : decode b_G_drawRead 17 = .ok (.iconst (-1), 1) := by decide +kernel
theorem d_G_drawRead_18 : decode b_G_drawRead 18 = .ok (.if_icmp .eq 32, 3) := by decide +kernel
theorem d_G_drawRead_21 : decode b_G_drawRead 21 = .ok (.aload_n 1, 1) := by decide +kernel
theorem d_G_drawRead_22 : decode b_G_drawRead 22 = .ok (.aload_n 1, 1) := by decide +kernel
theorem d_G_drawRead_23 : decode b_G_drawRead 23 = .ok (.getfield 54, 3) := by decide +kernel
theorem d_G_drawRead_26 : decode b_G_drawRead 26 = .ok (.iload 4, 2) := by decide +kernel
theorem d_G_drawRead_28 : decode b_G_drawRead 28 = .ok (.iaload, 1) := by decide +kernel
theorem d_G_drawRead_29 : decode b_G_drawRead 29 = .ok (.invokevirtual 40, 3) := by decide +kernel
theorem d_G_drawRead_32 : decode b_G_drawRead 32 = .ok (.ifCond .eq 18, 3) := by decide +kernel
theorem d_G_drawRead_35 : decode b_G_drawRead 35 = .ok (.aload_n 0, 1) := by decide +kernel
theorem d_G_drawRead_36 : decode b_G_drawRead 36 = .ok (.getfield 15, 3) := by decide +kernel
theorem d_G_drawRead_39 : decode b_G_drawRead 39 = .ok (.aload_n 1, 1) := by decide +kernel
theorem d_G_drawRead_40 : decode b_G_drawRead 40 = .ok (.getfield 54, 3) := by decide +kernel
theorem d_G_drawRead_43 : decode b_G_drawRead 43 = .ok (.iload 4, 2) := by decide +kernel
theorem d_G_drawRead_45 : decode b_G_drawRead 45 = .ok (.iaload, 1) := by decide +kernel
theorem d_G_drawRead_46 : decode b_G_drawRead 46 = .ok (.iload_n 3, 1) := by decide +kernel
theorem d_G_drawRead_47 : decode b_G_drawRead 47 = .ok (.invokestatic 57, 3) := by decide +kernel
theorem d_G_drawRead_50 : decode b_G_drawRead 50 = .ok (.aload_n 1, 1) := by decide +kernel
theorem d_G_drawRead_51 : decode b_G_drawRead 51 = .ok (.aload_n 1, 1) := by decide +kernel
theorem d_G_drawRead_52 : decode b_G_drawRead 52 = .ok (.getfield 64, 3) := by decide +kernel
theorem d_G_drawRead_55 : decode b_G_drawRead 55 = .ok (.iload_n 2, 1) := by decide +kernel
theorem d_G_drawRead_56 : decode b_G_drawRead 56 = .ok (.iaload, 1) := by decide +kernel
theorem d_G_drawRead_57 : decode b_G_drawRead 57 = .ok (.iload 4, 2) := by decide +kernel
theorem d_G_drawRead_59 : decode b_G_drawRead 59 = .ok (.invokevirtual 67, 3) := by decide +kernel
theorem d_G_drawRead_62 : decode b_G_drawRead 62 = .ok (.istore 5, 2) := by decide +kernel
theorem d_G_drawRead_64 : decode b_G_drawRead 64 = .ok (.iload 5, 2) := by decide +kernel
theorem d_G_drawRead_66 : decode b_G_drawRead 66 = .ok (.iconst (-1), 1) := by decide +kernel
theorem d_G_drawRead_67 : decode b_G_drawRead 67 = .ok (.if_icmp .eq 13, 3) := by decide +kernel
theorem d_G_drawRead_70 : decode b_G_drawRead 70 = .ok (.aload_n 0, 1) := by decide +kernel
theorem d_G_drawRead_71 : decode b_G_drawRead 71 = .ok (.getfield 18, 3) := by decide +kernel
theorem d_G_drawRead_74 : decode b_G_drawRead 74 = .ok (.iload_n 3, 1) := by decide +kernel
theorem d_G_drawRead_75 : decode b_G_drawRead 75 = .ok (.iload 5, 2) := by decide +kernel
theorem d_G_drawRead_77 : decode b_G_drawRead 77 = .ok (.invokestatic 57, 3) := by decide +kernel
theorem d_G_drawRead_80 : decode b_G_drawRead 80 = .ok (.return_, 1) := by decide +kernel
abbrev y_G_init : MethodName := ⟨"HistoryJudge$Graph", "<init>", "()V"⟩
abbrev b_G_init : ByteArray := prog_3_method_1_code
theorem d_G_init_0 : decode b_G_init 0 = .ok (.aload_n 0, 1) := by decide +kernel
theorem d_G_init_1 : decode b_G_init 1 = .ok (.invokespecial 3, 3) := by decide +kernel
theorem d_G_init_4 : decode b_G_init 4 = .ok (.aload_n 0, 1) := by decide +kernel
theorem d_G_init_5 : decode b_G_init 5 = .ok (.bipush 8, 2) := by decide +kernel
theorem d_G_init_7 : decode b_G_init 7 = .ok (.newarray .int, 2) := by decide +kernel
theorem d_G_init_9 : decode b_G_init 9 = .ok (.putfield 9, 3) := by decide +kernel
theorem d_G_init_12 : decode b_G_init 12 = .ok (.aload_n 0, 1) := by decide +kernel
theorem d_G_init_13 : decode b_G_init 13 = .ok (.bipush 8, 2) := by decide +kernel
theorem d_G_init_15 : decode b_G_init 15 = .ok (.newarray .int, 2) := by decide +kernel
theorem d_G_init_17 : decode b_G_init 17 = .ok (.putfield 15, 3) := by decide +kernel
theorem d_G_init_20 : decode b_G_init 20 = .ok (.aload_n 0, 1) := by decide +kernel
theorem d_G_init_21 : decode b_G_init 21 = .ok (.bipush 8, 2) := by decide +kernel
theorem d_G_init_23 : decode b_G_init 23 = .ok (.newarray .int, 2) := by decide +kernel
theorem d_G_init_25 : decode b_G_init 25 = .ok (.putfield 18, 3) := by decide +kernel
theorem d_G_init_28 : decode b_G_init 28 = .ok (.return_, 1) := by decide +kernel
abbrev y_G_join : MethodName := ⟨"HistoryJudge$Graph", "join", "([III)V"⟩
abbrev b_G_join : ByteArray := prog_3_method_5_code
theorem d_G_join_0 : decode b_G_join 0 = .ok (.iload_n 1, 1) := by decide +kernel
theorem d_G_join_1 : decode b_G_join 1 = .ok (.iload_n 2, 1) := by decide +kernel
theorem d_G_join_2 : decode b_G_join 2 = .ok (.if_icmp .eq 13, 3) := by decide +kernel
theorem d_G_join_5 : decode b_G_join 5 = .ok (.aload_n 0, 1) := by decide +kernel
theorem d_G_join_6 : decode b_G_join 6 = .ok (.iload_n 1, 1) := by decide +kernel
theorem d_G_join_7 : decode b_G_join 7 = .ok (.dup2, 1) := by decide +kernel
theorem d_G_join_8 : decode b_G_join 8 = .ok (.iaload, 1) := by decide +kernel
theorem d_G_join_9 : decode b_G_join 9 = .ok (.iload_n 2, 1) := by decide +kernel
theorem d_G_join_10 : decode b_G_join 10 = .ok (.invokestatic 71, 3) := by decide +kernel
theorem d_G_join_13 : decode b_G_join 13 = .ok (.ior, 1) := by decide +kernel
theorem d_G_join_14 : decode b_G_join 14 = .ok (.iastore, 1) := by decide +kernel
theorem d_G_join_15 : decode b_G_join 15 = .ok (.return_, 1) := by decide +kernel
abbrev y_H_addRead : MethodName := ⟨"HistoryJudge$History", "addRead", "(III)I"⟩
abbrev b_H_addRead : ByteArray := prog_4_method_7_code
theorem d_H_addRead_0 : decode b_H_addRead 0 = .ok (.aload_n 0, 1) := by decide +kernel
theorem d_H_addRead_1 : decode b_H_addRead 1 = .ok (.getfield 21, 3) := by decide +kernel
theorem d_H_addRead_4 : decode b_H_addRead 4 = .ok (.aload_n 0, 1) := by decide +kernel
theorem d_H_addRead_5 : decode b_H_addRead 5 = .ok (.getfield 51, 3) := by decide +kernel
theorem d_H_addRead_8 : decode b_H_addRead 8 = .ok (.iload_n 1, 1) := by decide +kernel
theorem d_H_addRead_9 : decode b_H_addRead 9 = .ok (.iastore, 1) := by decide +kernel
theorem d_H_addRead_10 : decode b_H_addRead 10 = .ok (.aload_n 0, 1) := by decide +kernel
theorem d_H_addRead_11 : decode b_H_addRead 11 = .ok (.getfield 24, 3) := by decide +kernel
theorem d_H_addRead_14 : decode b_H_addRead 14 = .ok (.aload_n 0, 1) := by decide +kernel
theorem d_H_addRead_15 : decode b_H_addRead 15 = .ok (.getfield 51, 3) := by decide +kernel
theorem d_H_addRead_18 : decode b_H_addRead 18 = .ok (.iload_n 2, 1) := by decide +kernel
theorem d_H_addRead_19 : decode b_H_addRead 19 = .ok (.iastore, 1) := by decide +kernel
theorem d_H_addRead_20 : decode b_H_addRead 20 = .ok (.aload_n 0, 1) := by decide +kernel
theorem d_H_addRead_21 : decode b_H_addRead 21 = .ok (.getfield 27, 3) := by decide +kernel
theorem d_H_addRead_24 : decode b_H_addRead 24 = .ok (.aload_n 0, 1) := by decide +kernel
theorem d_H_addRead_25 : decode b_H_addRead 25 = .ok (.getfield 51, 3) := by decide +kernel
theorem d_H_addRead_28 : decode b_H_addRead 28 = .ok (.iload_n 3, 1) := by decide +kernel
theorem d_H_addRead_29 : decode b_H_addRead 29 = .ok (.iastore, 1) := by decide +kernel
theorem d_H_addRead_30 : decode b_H_addRead 30 = .ok (.aload_n 0, 1) := by decide +kernel
theorem d_H_addRead_31 : decode b_H_addRead 31 = .ok (.getfield 30, 3) := by decide +kernel
theorem d_H_addRead_34 : decode b_H_addRead 34 = .ok (.aload_n 0, 1) := by decide +kernel
theorem d_H_addRead_35 : decode b_H_addRead 35 = .ok (.getfield 51, 3) := by decide +kernel
theorem d_H_addRead_38 : decode b_H_addRead 38 = .ok (.aload_n 0, 1) := by decide +kernel
theorem d_H_addRead_39 : decode b_H_addRead 39 = .ok (.getfield 35, 3) := by decide +kernel
theorem d_H_addRead_42 : decode b_H_addRead 42 = .ok (.iload_n 1, 1) := by decide +kernel
theorem d_H_addRead_43 : decode b_H_addRead 43 = .ok (.aaload, 1) := by decide +kernel
theorem d_H_addRead_44 : decode b_H_addRead 44 = .ok (.iload_n 2, 1) := by decide +kernel
theorem d_H_addRead_45 : decode b_H_addRead 45 = .ok (.iaload, 1) := by decide +kernel
theorem d_H_addRead_46 : decode b_H_addRead 46 = .ok (.iastore, 1) := by decide +kernel
theorem d_H_addRead_47 : decode b_H_addRead 47 = .ok (.aload_n 0, 1) := by decide +kernel
theorem d_H_addRead_48 : decode b_H_addRead 48 = .ok (.getfield 9, 3) := by decide +kernel
theorem d_H_addRead_51 : decode b_H_addRead 51 = .ok (.iload_n 1, 1) := by decide +kernel
theorem d_H_addRead_52 : decode b_H_addRead 52 = .ok (.iconst 1, 1) := by decide +kernel
theorem d_H_addRead_53 : decode b_H_addRead 53 = .ok (.iastore, 1) := by decide +kernel
theorem d_H_addRead_54 : decode b_H_addRead 54 = .ok (.aload_n 0, 1) := by decide +kernel
theorem d_H_addRead_55 : decode b_H_addRead 55 = .ok (.dup, 1) := by decide +kernel
theorem d_H_addRead_56 : decode b_H_addRead 56 = .ok (.getfield 51, 3) := by decide +kernel
theorem d_H_addRead_59 : decode b_H_addRead 59 = .ok (.iconst 1, 1) := by decide +kernel
theorem d_H_addRead_60 : decode b_H_addRead 60 = .ok (.iadd, 1) := by decide +kernel
theorem d_H_addRead_61 : decode b_H_addRead 61 = .ok (.putfield 51, 3) := by decide +kernel
theorem d_H_addRead_64 : decode b_H_addRead 64 = .ok (.aload_n 0, 1) := by decide +kernel
theorem d_H_addRead_65 : decode b_H_addRead 65 = .ok (.getfield 51, 3) := by decide +kernel
theorem d_H_addRead_68 : decode b_H_addRead 68 = .ok (.ireturn, 1) := by decide +kernel
abbrev y_H_addVersion : MethodName := ⟨"HistoryJudge$History", "addVersion", "(II)I"⟩
abbrev b_H_addVersion : ByteArray := prog_4_method_6_code
theorem d_H_addVersion_0 : decode b_H_addVersion 0 = .ok (.aload_n 0, 1) := by decide +kernel
theorem d_H_addVersion_1 : decode b_H_addVersion 1 = .ok (.getfield 47, 3) := by decide +kernel
theorem d_H_addVersion_4 : decode b_H_addVersion 4 = .ok (.istore_n 3, 1) := by decide +kernel
theorem d_H_addVersion_5 : decode b_H_addVersion 5 = .ok (.aload_n 0, 1) := by decide +kernel
theorem d_H_addVersion_6 : decode b_H_addVersion 6 = .ok (.getfield 15, 3) := by decide +kernel
theorem d_H_addVersion_9 : decode b_H_addVersion 9 = .ok (.iload_n 3, 1) := by decide +kernel
theorem d_H_addVersion_10 : decode b_H_addVersion 10 = .ok (.iload_n 1, 1) := by decide +kernel
theorem d_H_addVersion_11 : decode b_H_addVersion 11 = .ok (.iastore, 1) := by decide +kernel
theorem d_H_addVersion_12 : decode b_H_addVersion 12 = .ok (.aload_n 0, 1) := by decide +kernel
theorem d_H_addVersion_13 : decode b_H_addVersion 13 = .ok (.getfield 18, 3) := by decide +kernel
theorem d_H_addVersion_16 : decode b_H_addVersion 16 = .ok (.iload_n 3, 1) := by decide +kernel
theorem d_H_addVersion_17 : decode b_H_addVersion 17 = .ok (.iload_n 2, 1) := by decide +kernel
theorem d_H_addVersion_18 : decode b_H_addVersion 18 = .ok (.iastore, 1) := by decide +kernel
theorem d_H_addVersion_19 : decode b_H_addVersion 19 = .ok (.aload_n 0, 1) := by decide +kernel
theorem d_H_addVersion_20 : decode b_H_addVersion 20 = .ok (.getfield 35, 3) := by decide +kernel
theorem d_H_addVersion_23 : decode b_H_addVersion 23 = .ok (.iload_n 1, 1) := by decide +kernel
theorem d_H_addVersion_24 : decode b_H_addVersion 24 = .ok (.aaload, 1) := by decide +kernel
theorem d_H_addVersion_25 : decode b_H_addVersion 25 = .ok (.iload_n 2, 1) := by decide +kernel
theorem d_H_addVersion_26 : decode b_H_addVersion 26 = .ok (.iload_n 3, 1) := by decide +kernel
theorem d_H_addVersion_27 : decode b_H_addVersion 27 = .ok (.iastore, 1) := by decide +kernel
theorem d_H_addVersion_28 : decode b_H_addVersion 28 = .ok (.aload_n 0, 1) := by decide +kernel
theorem d_H_addVersion_29 : decode b_H_addVersion 29 = .ok (.getfield 9, 3) := by decide +kernel
theorem d_H_addVersion_32 : decode b_H_addVersion 32 = .ok (.iload_n 1, 1) := by decide +kernel
theorem d_H_addVersion_33 : decode b_H_addVersion 33 = .ok (.iconst 1, 1) := by decide +kernel
theorem d_H_addVersion_34 : decode b_H_addVersion 34 = .ok (.iastore, 1) := by decide +kernel
theorem d_H_addVersion_35 : decode b_H_addVersion 35 = .ok (.aload_n 0, 1) := by decide +kernel
theorem d_H_addVersion_36 : decode b_H_addVersion 36 = .ok (.dup, 1) := by decide +kernel
theorem d_H_addVersion_37 : decode b_H_addVersion 37 = .ok (.getfield 47, 3) := by decide +kernel
theorem d_H_addVersion_40 : decode b_H_addVersion 40 = .ok (.iconst 1, 1) := by decide +kernel
theorem d_H_addVersion_41 : decode b_H_addVersion 41 = .ok (.iadd, 1) := by decide +kernel
theorem d_H_addVersion_42 : decode b_H_addVersion 42 = .ok (.putfield 47, 3) := by decide +kernel
theorem d_H_addVersion_45 : decode b_H_addVersion 45 = .ok (.iload_n 3, 1) := by decide +kernel
theorem d_H_addVersion_46 : decode b_H_addVersion 46 = .ok (.ireturn, 1) := by decide +kernel
abbrev y_H_commit : MethodName := ⟨"HistoryJudge$History", "commit", "(I)V"⟩
abbrev b_H_commit : ByteArray := prog_4_method_8_code
theorem d_H_commit_0 : decode b_H_commit 0 = .ok (.aload_n 0, 1) := by decide +kernel
theorem d_H_commit_1 : decode b_H_commit 1 = .ok (.getfield 9, 3) := by decide +kernel
theorem d_H_commit_4 : decode b_H_commit 4 = .ok (.iload_n 1, 1) := by decide +kernel
theorem d_H_commit_5 : decode b_H_commit 5 = .ok (.iconst 2, 1) := by decide +kernel
theorem d_H_commit_6 : decode b_H_commit 6 = .ok (.iastore, 1) := by decide +kernel
theorem d_H_commit_7 : decode b_H_commit 7 = .ok (.iconst 0, 1) := by decide +kernel
theorem d_H_commit_8 : decode b_H_commit 8 = .ok (.istore_n 2, 1) := by decide +kernel
theorem d_H_commit_9 : decode b_H_commit 9 = .ok (.iload_n 2, 1) := by decide +kernel
theorem d_H_commit_10 : decode b_H_commit 10 = .ok (.bipush 6, 2) := by decide +kernel
theorem d_H_commit_12 : decode b_H_commit 12 = .ok (.if_icmp .ge 63, 3) := by decide +kernel
theorem d_H_commit_15 : decode b_H_commit 15 = .ok (.aload_n 0, 1) := by decide +kernel
theorem d_H_commit_16 : decode b_H_commit 16 = .ok (.getfield 35, 3) := by decide +kernel
theorem d_H_commit_19 : decode b_H_commit 19 = .ok (.iload_n 1, 1) := by decide +kernel
theorem d_H_commit_20 : decode b_H_commit 20 = .ok (.aaload, 1) := by decide +kernel
theorem d_H_commit_21 : decode b_H_commit 21 = .ok (.iload_n 2, 1) := by decide +kernel
theorem d_H_commit_22 : decode b_H_commit 22 = .ok (.iaload, 1) := by decide +kernel
theorem d_H_commit_23 : decode b_H_commit 23 = .ok (.iconst (-1), 1) := by decide +kernel
theorem d_H_commit_24 : decode b_H_commit 24 = .ok (.if_icmp .eq 45, 3) := by decide +kernel
theorem d_H_commit_27 : decode b_H_commit 27 = .ok (.aload_n 0, 1) := by decide +kernel
theorem d_H_commit_28 : decode b_H_commit 28 = .ok (.getfield 41, 3) := by decide +kernel
theorem d_H_commit_31 : decode b_H_commit 31 = .ok (.iload_n 2, 1) := by decide +kernel
theorem d_H_commit_32 : decode b_H_commit 32 = .ok (.iaload, 1) := by decide +kernel
theorem d_H_commit_33 : decode b_H_commit 33 = .ok (.bipush 8, 2) := by decide +kernel
theorem d_H_commit_35 : decode b_H_commit 35 = .ok (.if_icmp .ge 34, 3) := by decide +kernel
theorem d_H_commit_38 : decode b_H_commit 38 = .ok (.aload_n 0, 1) := by decide +kernel
theorem d_H_commit_39 : decode b_H_commit 39 = .ok (.getfield 38, 3) := by decide +kernel
theorem d_H_commit_42 : decode b_H_commit 42 = .ok (.iload_n 2, 1) := by decide +kernel
theorem d_H_commit_43 : decode b_H_commit 43 = .ok (.aaload, 1) := by decide +kernel
theorem d_H_commit_44 : decode b_H_commit 44 = .ok (.aload_n 0, 1) := by decide +kernel
theorem d_H_commit_45 : decode b_H_commit 45 = .ok (.getfield 41, 3) := by decide +kernel
theorem d_H_commit_48 : decode b_H_commit 48 = .ok (.iload_n 2, 1) := by decide +kernel
theorem d_H_commit_49 : decode b_H_commit 49 = .ok (.iaload, 1) := by decide +kernel
theorem d_H_commit_50 : decode b_H_commit 50 = .ok (.aload_n 0, 1) := by decide +kernel
theorem d_H_commit_51 : decode b_H_commit 51 = .ok (.getfield 35, 3) := by decide +kernel
theorem d_H_commit_54 : decode b_H_commit 54 = .ok (.iload_n 1, 1) := by decide +kernel
theorem d_H_commit_55 : decode b_H_commit 55 = .ok (.aaload, 1) := by decide +kernel
theorem d_H_commit_56 : decode b_H_commit 56 = .ok (.iload_n 2, 1) := by decide +kernel
theorem d_H_commit_57 : decode b_H_commit 57 = .ok (.iaload, 1) := by decide +kernel
theorem d_H_commit_58 : decode b_H_commit 58 = .ok (.iastore, 1) := by decide +kernel
theorem d_H_commit_59 : decode b_H_commit 59 = .ok (.aload_n 0, 1) := by decide +kernel
theorem d_H_commit_60 : decode b_H_commit 60 = .ok (.getfield 41, 3) := by decide +kernel
theorem d_H_commit_63 : decode b_H_commit 63 = .ok (.iload_n 2, 1) := by decide +kernel
theorem d_H_commit_64 : decode b_H_commit 64 = .ok (.dup2, 1) := by decide +kernel
theorem d_H_commit_65 : decode b_H_commit 65 = .ok (.iaload, 1) := by decide +kernel
theorem d_H_commit_66 : decode b_H_commit 66 = .ok (.iconst 1, 1) := by decide +kernel
theorem d_H_commit_67 : decode b_H_commit 67 = .ok (.iadd, 1) := by decide +kernel
theorem d_H_commit_68 : decode b_H_commit 68 = .ok (.iastore, 1) := by decide +kernel
theorem d_H_commit_69 : decode b_H_commit 69 = .ok (.iinc 2 1, 3) := by decide +kernel
theorem d_H_commit_72 : decode b_H_commit 72 = .ok (.goto (-63), 3) := by decide +kernel
theorem d_H_commit_75 : decode b_H_commit 75 = .ok (.return_, 1) := by decide +kernel
abbrev y_H_committedSet : MethodName := ⟨"HistoryJudge$History", "committedSet", "()I"⟩
abbrev b_H_committedSet : ByteArray := prog_4_method_9_code
theorem d_H_committedSet_0 : decode b_H_committedSet 0 = .ok (.iconst 0, 1) := by decide +kernel
theorem d_H_committedSet_1 : decode b_H_committedSet 1 = .ok (.istore_n 1, 1) := by decide +kernel
theorem d_H_committedSet_2 : decode b_H_committedSet 2 = .ok (.iconst 0, 1) := by decide +kernel
theorem d_H_committedSet_3 : decode b_H_committedSet 3 = .ok (.istore_n 2, 1) := by decide +kernel
theorem d_H_committedSet_4 : decode b_H_committedSet 4 = .ok (.iload_n 2, 1) := by decide +kernel
theorem d_H_committedSet_5 : decode b_H_committedSet 5 = .ok (.bipush 8, 2) := by decide +kernel
theorem d_H_committedSet_7 : decode b_H_committedSet 7 = .ok (.if_icmp .ge 24, 3) := by decide +kernel
theorem d_H_committedSet_10 : decode b_H_committedSet 10 = .ok (.aload_n 0, 1) := by decide +kernel
theorem d_H_committedSet_11 : decode b_H_committedSet 11 = .ok (.iload_n 2, 1) := by decide +kernel
theorem d_H_committedSet_12 : decode b_H_committedSet 12 = .ok (.invokevirtual 60, 3) := by decide +kernel
theorem d_H_committedSet_15 : decode b_H_committedSet 15 = .ok (.ifCond .eq 10, 3) := by decide +kernel
theorem d_H_committedSet_18 : decode b_H_committedSet 18 = .ok (.iload_n 1, 1) := by decide +kernel
theorem d_H_committedSet_19 : decode b_H_committedSet 19 = .ok (.iload_n 2, 1) := by decide +kernel
theorem d_H_committedSet_20 : decode b_H_committedSet 20 = .ok (.invokestatic 64, 3) := by decide +kernel
theorem d_H_committedSet_23 : decode b_H_committedSet 23 = .ok (.ior, 1) := by decide +kernel
theorem d_H_committedSet_24 : decode b_H_committedSet 24 = .ok (.istore_n 1, 1) := by decide +kernel
theorem d_H_committedSet_25 : decode b_H_committedSet 25 = .ok (.iinc 2 1, 3) := by decide +kernel
theorem d_H_committedSet_28 : decode b_H_committedSet 28 = .ok (.goto (-24), 3) := by decide +kernel
theorem d_H_committedSet_31 : decode b_H_committedSet 31 = .ok (.iload_n 1, 1) := by decide +kernel
theorem d_H_committedSet_32 : decode b_H_committedSet 32 = .ok (.ireturn, 1) := by decide +kernel
abbrev y_H_hasAbortedRead : MethodName := ⟨"HistoryJudge$History", "hasAbortedRead", "()Z"⟩
abbrev b_H_hasAbortedRead : ByteArray := prog_4_method_14_code
theorem d_H_hasAbortedRead_0 : decode b_H_hasAbortedRead 0 = .ok (.iconst 0, 1) := by decide +kernel
theorem d_H_hasAbortedRead_1 : decode b_H_hasAbortedRead 1 = .ok (.istore_n 1, 1) := by decide +kernel
theorem d_H_hasAbortedRead_2 : decode b_H_hasAbortedRead 2 = .ok (.iload_n 1, 1) := by decide +kernel
theorem d_H_hasAbortedRead_3 : decode b_H_hasAbortedRead 3 = .ok (.aload_n 0, 1) := by decide +kernel
theorem d_H_hasAbortedRead_4 : decode b_H_hasAbortedRead 4 = .ok (.getfield 51, 3) := by decide +kernel
theorem d_H_hasAbortedRead_7 : decode b_H_hasAbortedRead 7 = .ok (.if_icmp .ge 37, 3) := by decide +kernel
theorem d_H_hasAbortedRead_10 : decode b_H_hasAbortedRead 10 = .ok (.aload_n 0, 1) := by decide +kernel
theorem d_H_hasAbortedRead_11 : decode b_H_hasAbortedRead 11 = .ok (.iload_n 1, 1) := by decide +kernel
theorem d_H_hasAbortedRead_12 : decode b_H_hasAbortedRead 12 = .ok (.invokevirtual 72, 3) := by decide +kernel
theorem d_H_hasAbortedRead_15 : decode b_H_hasAbortedRead 15 = .ok (.ifCond .eq 23, 3) := by decide +kernel
theorem d_H_hasAbortedRead_18 : decode b_H_hasAbortedRead 18 = .ok (.aload_n 0, 1) := by decide +kernel
theorem d_H_hasAbortedRead_19 : decode b_H_hasAbortedRead 19 = .ok (.aload_n 0, 1) := by decide +kernel
theorem d_H_hasAbortedRead_20 : decode b_H_hasAbortedRead 20 = .ok (.getfield 15, 3) := by decide +kernel
theorem d_H_hasAbortedRead_23 : decode b_H_hasAbortedRead 23 = .ok (.aload_n 0, 1) := by decide +kernel
theorem d_H_hasAbortedRead_24 : decode b_H_hasAbortedRead 24 = .ok (.getfield 27, 3) := by decide +kernel
theorem d_H_hasAbortedRead_27 : decode b_H_hasAbortedRead 27 = .ok (.iload_n 1, 1) := by decide +kernel
theorem d_H_hasAbortedRead_28 : decode b_H_hasAbortedRead 28 = .ok (.iaload, 1) := by decide +kernel
theorem d_H_hasAbortedRead_29 : decode b_H_hasAbortedRead 29 = .ok (.iaload, 1) := by decide +kernel
theorem d_H_hasAbortedRead_30 : decode b_H_hasAbortedRead 30 = .ok (.invokevirtual 60, 3) := by decide +kernel
theorem d_H_hasAbortedRead_33 : decode b_H_hasAbortedRead 33 = .ok (.ifCond .ne 5, 3) := by decide +kernel
theorem d_H_hasAbortedRead_36 : decode b_H_hasAbortedRead 36 = .ok (.iconst 1, 1) := by decide +kernel
theorem d_H_hasAbortedRead_37 : decode b_H_hasAbortedRead 37 = .ok (.ireturn, 1) := by decide +kernel
theorem d_H_hasAbortedRead_38 : decode b_H_hasAbortedRead 38 = .ok (.iinc 1 1, 3) := by decide +kernel
theorem d_H_hasAbortedRead_41 : decode b_H_hasAbortedRead 41 = .ok (.goto (-39), 3) := by decide +kernel
theorem d_H_hasAbortedRead_44 : decode b_H_hasAbortedRead 44 = .ok (.iconst 0, 1) := by decide +kernel
theorem d_H_hasAbortedRead_45 : decode b_H_hasAbortedRead 45 = .ok (.ireturn, 1) := by decide +kernel
abbrev y_H_hasEnded : MethodName := ⟨"HistoryJudge$History", "hasEnded", "(I)Z"⟩
abbrev b_H_hasEnded : ByteArray := prog_4_method_3_code
theorem d_H_hasEnded_0 : decode b_H_hasEnded 0 = .ok (.aload_n 0, 1) := by decide +kernel
theorem d_H_hasEnded_1 : decode b_H_hasEnded 1 = .ok (.getfield 9, 3) := by decide +kernel
theorem d_H_hasEnded_4 : decode b_H_hasEnded 4 = .ok (.iload_n 1, 1) := by decide +kernel
theorem d_H_hasEnded_5 : decode b_H_hasEnded 5 = .ok (.iaload, 1) := by decide +kernel
theorem d_H_hasEnded_6 : decode b_H_hasEnded 6 = .ok (.iconst 2, 1) := by decide +kernel
theorem d_H_hasEnded_7 : decode b_H_hasEnded 7 = .ok (.if_icmp .eq 13, 3) := by decide +kernel
theorem d_H_hasEnded_10 : decode b_H_hasEnded 10 = .ok (.aload_n 0, 1) := by decide +kernel
theorem d_H_hasEnded_11 : decode b_H_hasEnded 11 = .ok (.getfield 9, 3) := by decide +kernel
theorem d_H_hasEnded_14 : decode b_H_hasEnded 14 = .ok (.iload_n 1, 1) := by decide +kernel
theorem d_H_hasEnded_15 : decode b_H_hasEnded 15 = .ok (.iaload, 1) := by decide +kernel
theorem d_H_hasEnded_16 : decode b_H_hasEnded 16 = .ok (.iconst 3, 1) := by decide +kernel
theorem d_H_hasEnded_17 : decode b_H_hasEnded 17 = .ok (.if_icmp .ne 7, 3) := by decide +kernel
theorem d_H_hasEnded_20 : decode b_H_hasEnded 20 = .ok (.iconst 1, 1) := by decide +kernel
theorem d_H_hasEnded_21 : decode b_H_hasEnded 21 = .ok (.goto 4, 3) := by decide +kernel
theorem d_H_hasEnded_24 : decode b_H_hasEnded 24 = .ok (.iconst 0, 1) := by decide +kernel
theorem d_H_hasEnded_25 : decode b_H_hasEnded 25 = .ok (.ireturn, 1) := by decide +kernel
abbrev y_H_hasUnfinishedRead : MethodName := ⟨"HistoryJudge$History", "hasUnfinishedRead", "()Z"⟩
abbrev b_H_hasUnfinishedRead : ByteArray := prog_4_method_15_code
theorem d_H_hasUnfinishedRead_0 : decode b_H_hasUnfinishedRead 0 = .ok (.iconst 0, 1) := by decide +kernel
theorem d_H_hasUnfinishedRead_1 : decode b_H_hasUnfinishedRead 1 = .ok (.istore_n 1, 1) := by decide +kernel
theorem d_H_hasUnfinishedRead_2 : decode b_H_hasUnfinishedRead 2 = .ok (.iload_n 1, 1) := by decide +kernel
theorem d_H_hasUnfinishedRead_3 : decode b_H_hasUnfinishedRead 3 = .ok (.aload_n 0, 1) := by decide +kernel
theorem d_H_hasUnfinishedRead_4 : decode b_H_hasUnfinishedRead 4 = .ok (.getfield 51, 3) := by decide +kernel
theorem d_H_hasUnfinishedRead_7 : decode b_H_hasUnfinishedRead 7 = .ok (.if_icmp .ge 40, 3) := by decide +kernel
theorem d_H_hasUnfinishedRead_10 : decode b_H_hasUnfinishedRead 10 = .ok (.aload_n 0, 1) := by decide +kernel
theorem d_H_hasUnfinishedRead_11 : decode b_H_hasUnfinishedRead 11 = .ok (.iload_n 1, 1) := by decide +kernel
theorem d_H_hasUnfinishedRead_12 : decode b_H_hasUnfinishedRead 12 = .ok (.invokevirtual 72, 3) := by decide +kernel
theorem d_H_hasUnfinishedRead_15 : decode b_H_hasUnfinishedRead 15 = .ok (.ifCond .eq 26, 3) := by decide +kernel
theorem d_H_hasUnfinishedRead_18 : decode b_H_hasUnfinishedRead 18 = .ok (.aload_n 0, 1) := by decide +kernel
theorem d_H_hasUnfinishedRead_19 : decode b_H_hasUnfinishedRead 19 = .ok (.iload_n 1, 1) := by decide +kernel
theorem d_H_hasUnfinishedRead_20 : decode b_H_hasUnfinishedRead 20 = .ok (.invokevirtual 75, 3) := by decide +kernel
theorem d_H_hasUnfinishedRead_23 : decode b_H_hasUnfinishedRead 23 = .ok (.ifCond .eq 18, 3) := by decide +kernel
theorem d_H_hasUnfinishedRead_26 : decode b_H_hasUnfinishedRead 26 = .ok (.aload_n 0, 1) := by decide +kernel
theorem d_H_hasUnfinishedRead_27 : decode b_H_hasUnfinishedRead 27 = .ok (.aload_n 0, 1) := by decide +kernel
theorem d_H_hasUnfinishedRead_28 : decode b_H_hasUnfinishedRead 28 = .ok (.getfield 27, 3) := by decide +kernel
theorem d_H_hasUnfinishedRead_31 : decode b_H_hasUnfinishedRead 31 = .ok (.iload_n 1, 1) := by decide +kernel
theorem d_H_hasUnfinishedRead_32 : decode b_H_hasUnfinishedRead 32 = .ok (.iaload, 1) := by decide +kernel
theorem d_H_hasUnfinishedRead_33 : decode b_H_hasUnfinishedRead 33 = .ok (.invokevirtual 78, 3) := by decide +kernel
theorem d_H_hasUnfinishedRead_36 : decode b_H_hasUnfinishedRead 36 = .ok (.ifCond .ne 5, 3) := by decide +kernel
theorem d_H_hasUnfinishedRead_39 : decode b_H_hasUnfinishedRead 39 = .ok (.iconst 1, 1) := by decide +kernel
theorem d_H_hasUnfinishedRead_40 : decode b_H_hasUnfinishedRead 40 = .ok (.ireturn, 1) := by decide +kernel
theorem d_H_hasUnfinishedRead_41 : decode b_H_hasUnfinishedRead 41 = .ok (.iinc 1 1, 3) := by decide +kernel
theorem d_H_hasUnfinishedRead_44 : decode b_H_hasUnfinishedRead 44 = .ok (.goto (-42), 3) := by decide +kernel
theorem d_H_hasUnfinishedRead_47 : decode b_H_hasUnfinishedRead 47 = .ok (.iconst 0, 1) := by decide +kernel
theorem d_H_hasUnfinishedRead_48 : decode b_H_hasUnfinishedRead 48 = .ok (.ireturn, 1) := by decide +kernel
abbrev y_H_hasVersion : MethodName := ⟨"HistoryJudge$History", "hasVersion", "(II)Z"⟩
abbrev b_H_hasVersion : ByteArray := prog_4_method_5_code
theorem d_H_hasVersion_0 : decode b_H_hasVersion 0 = .ok (.iload_n 2, 1) := by decide +kernel
theorem d_H_hasVersion_1 : decode b_H_hasVersion 1 = .ok (.iconst (-1), 1) := by decide +kernel
theorem d_H_hasVersion_2 : decode b_H_hasVersion 2 = .ok (.if_icmp .ne 5, 3) := by decide +kernel
theorem d_H_hasVersion_5 : decode b_H_hasVersion 5 = .ok (.iconst 1, 1) := by decide +kernel
theorem d_H_hasVersion_6 : decode b_H_hasVersion 6 = .ok (.ireturn, 1) := by decide +kernel
theorem d_H_hasVersion_7 : decode b_H_hasVersion 7 = .ok (.iload_n 2, 1) := by decide +kernel
theorem d_H_hasVersion_8 : decode b_H_hasVersion 8 = .ok (.ifCond .lt 25, 3) := by decide +kernel
theorem d_H_hasVersion_11 : decode b_H_hasVersion 11 = .ok (.iload_n 2, 1) := by decide +kernel
theorem d_H_hasVersion_12 : decode b_H_hasVersion 12 = .ok (.aload_n 0, 1) := by decide +kernel
theorem d_H_hasVersion_13 : decode b_H_hasVersion 13 = .ok (.getfield 47, 3) := by decide +kernel
theorem d_H_hasVersion_16 : decode b_H_hasVersion 16 = .ok (.if_icmp .ge 17, 3) := by decide +kernel
theorem d_H_hasVersion_19 : decode b_H_hasVersion 19 = .ok (.aload_n 0, 1) := by decide +kernel
theorem d_H_hasVersion_20 : decode b_H_hasVersion 20 = .ok (.getfield 18, 3) := by decide +kernel
theorem d_H_hasVersion_23 : decode b_H_hasVersion 23 = .ok (.iload_n 2, 1) := by decide +kernel
theorem d_H_hasVersion_24 : decode b_H_hasVersion 24 = .ok (.iaload, 1) := by decide +kernel
theorem d_H_hasVersion_25 : decode b_H_hasVersion 25 = .ok (.iload_n 1, 1) := by decide +kernel
theorem d_H_hasVersion_26 : decode b_H_hasVersion 26 = .ok (.if_icmp .ne 7, 3) := by decide +kernel
theorem d_H_hasVersion_29 : decode b_H_hasVersion 29 = .ok (.iconst 1, 1) := by decide +kernel
theorem d_H_hasVersion_30 : decode b_H_hasVersion 30 = .ok (.goto 4, 3) := by decide +kernel
theorem d_H_hasVersion_33 : decode b_H_hasVersion 33 = .ok (.iconst 0, 1) := by decide +kernel
theorem d_H_hasVersion_34 : decode b_H_hasVersion 34 = .ok (.ireturn, 1) := by decide +kernel
abbrev y_H_hasWritten : MethodName := ⟨"HistoryJudge$History", "hasWritten", "(II)Z"⟩
abbrev b_H_hasWritten : ByteArray := prog_4_method_10_code
theorem d_H_hasWritten_0 : decode b_H_hasWritten 0 = .ok (.aload_n 0, 1) := by decide +kernel
theorem d_H_hasWritten_1 : decode b_H_hasWritten 1 = .ok (.getfield 35, 3) := by decide +kernel
theorem d_H_hasWritten_4 : decode b_H_hasWritten 4 = .ok (.iload_n 1, 1) := by decide +kernel
theorem d_H_hasWritten_5 : decode b_H_hasWritten 5 = .ok (.aaload, 1) := by decide +kernel
theorem d_H_hasWritten_6 : decode b_H_hasWritten 6 = .ok (.iload_n 2, 1) := by decide +kernel
theorem d_H_hasWritten_7 : decode b_H_hasWritten 7 = .ok (.iaload, 1) := by decide +kernel
theorem d_H_hasWritten_8 : decode b_H_hasWritten 8 = .ok (.iconst (-1), 1) := by decide +kernel
theorem d_H_hasWritten_9 : decode b_H_hasWritten 9 = .ok (.if_icmp .eq 7, 3) := by decide +kernel
theorem d_H_hasWritten_12 : decode b_H_hasWritten 12 = .ok (.iconst 1, 1) := by decide +kernel
theorem d_H_hasWritten_13 : decode b_H_hasWritten 13 = .ok (.goto 4, 3) := by decide +kernel
theorem d_H_hasWritten_16 : decode b_H_hasWritten 16 = .ok (.iconst 0, 1) := by decide +kernel
theorem d_H_hasWritten_17 : decode b_H_hasWritten 17 = .ok (.ireturn, 1) := by decide +kernel
abbrev y_H_init : MethodName := ⟨"HistoryJudge$History", "<init>", "()V"⟩
abbrev b_H_init : ByteArray := prog_4_method_1_code
theorem d_H_init_0 : decode b_H_init 0 = .ok (.aload_n 0, 1) := by decide +kernel
theorem d_H_init_1 : decode b_H_init 1 = .ok (.invokespecial 3, 3) := by decide +kernel
theorem d_H_init_4 : decode b_H_init 4 = .ok (.aload_n 0, 1) := by decide +kernel
theorem d_H_init_5 : decode b_H_init 5 = .ok (.bipush 8, 2) := by decide +kernel
theorem d_H_init_7 : decode b_H_init 7 = .ok (.newarray .int, 2) := by decide +kernel
theorem d_H_init_9 : decode b_H_init 9 = .ok (.putfield 9, 3) := by decide +kernel
theorem d_H_init_12 : decode b_H_init 12 = .ok (.aload_n 0, 1) := by decide +kernel
theorem d_H_init_13 : decode b_H_init 13 = .ok (.bipush 40, 2) := by decide +kernel
theorem d_H_init_15 : decode b_H_init 15 = .ok (.newarray .int, 2) := by decide +kernel
theorem d_H_init_17 : decode b_H_init 17 = .ok (.putfield 15, 3) := by decide +kernel
theorem d_H_init_20 : decode b_H_init 20 = .ok (.aload_n 0, 1) := by decide +kernel
theorem d_H_init_21 : decode b_H_init 21 = .ok (.bipush 40, 2) := by decide +kernel
theorem d_H_init_23 : decode b_H_init 23 = .ok (.newarray .int, 2) := by decide +kernel
theorem d_H_init_25 : decode b_H_init 25 = .ok (.putfield 18, 3) := by decide +kernel
theorem d_H_init_28 : decode b_H_init 28 = .ok (.aload_n 0, 1) := by decide +kernel
theorem d_H_init_29 : decode b_H_init 29 = .ok (.bipush 60, 2) := by decide +kernel
theorem d_H_init_31 : decode b_H_init 31 = .ok (.newarray .int, 2) := by decide +kernel
theorem d_H_init_33 : decode b_H_init 33 = .ok (.putfield 21, 3) := by decide +kernel
theorem d_H_init_36 : decode b_H_init 36 = .ok (.aload_n 0, 1) := by decide +kernel
theorem d_H_init_37 : decode b_H_init 37 = .ok (.bipush 60, 2) := by decide +kernel
theorem d_H_init_39 : decode b_H_init 39 = .ok (.newarray .int, 2) := by decide +kernel
theorem d_H_init_41 : decode b_H_init 41 = .ok (.putfield 24, 3) := by decide +kernel
theorem d_H_init_44 : decode b_H_init 44 = .ok (.aload_n 0, 1) := by decide +kernel
theorem d_H_init_45 : decode b_H_init 45 = .ok (.bipush 60, 2) := by decide +kernel
theorem d_H_init_47 : decode b_H_init 47 = .ok (.newarray .int, 2) := by decide +kernel
theorem d_H_init_49 : decode b_H_init 49 = .ok (.putfield 27, 3) := by decide +kernel
theorem d_H_init_52 : decode b_H_init 52 = .ok (.aload_n 0, 1) := by decide +kernel
theorem d_H_init_53 : decode b_H_init 53 = .ok (.bipush 60, 2) := by decide +kernel
theorem d_H_init_55 : decode b_H_init 55 = .ok (.newarray .int, 2) := by decide +kernel
theorem d_H_init_57 : decode b_H_init 57 = .ok (.putfield 30, 3) := by decide +kernel
theorem d_H_init_60 : decode b_H_init 60 = .ok (.aload_n 0, 1) := by decide +kernel
theorem d_H_init_61 : decode b_H_init 61 = .ok (.bipush 8, 2) := by decide +kernel
theorem d_H_init_63 : decode b_H_init 63 = .ok (.bipush 6, 2) := by decide +kernel
theorem d_H_init_65 : decode b_H_init 65 = .ok (.multianewarray 33 2, 4) := by decide +kernel
theorem d_H_init_69 : decode b_H_init 69 = .ok (.putfield 35, 3) := by decide +kernel
theorem d_H_init_72 : decode b_H_init 72 = .ok (.aload_n 0, 1) := by decide +kernel
theorem d_H_init_73 : decode b_H_init 73 = .ok (.bipush 6, 2) := by decide +kernel
theorem d_H_init_75 : decode b_H_init 75 = .ok (.bipush 8, 2) := by decide +kernel
theorem d_H_init_77 : decode b_H_init 77 = .ok (.multianewarray 33 2, 4) := by decide +kernel
theorem d_H_init_81 : decode b_H_init 81 = .ok (.putfield 38, 3) := by decide +kernel
theorem d_H_init_84 : decode b_H_init 84 = .ok (.aload_n 0, 1) := by decide +kernel
theorem d_H_init_85 : decode b_H_init 85 = .ok (.bipush 6, 2) := by decide +kernel
theorem d_H_init_87 : decode b_H_init 87 = .ok (.newarray .int, 2) := by decide +kernel
theorem d_H_init_89 : decode b_H_init 89 = .ok (.putfield 41, 3) := by decide +kernel
theorem d_H_init_92 : decode b_H_init 92 = .ok (.aload_n 0, 1) := by decide +kernel
theorem d_H_init_93 : decode b_H_init 93 = .ok (.invokevirtual 44, 3) := by decide +kernel
theorem d_H_init_96 : decode b_H_init 96 = .ok (.return_, 1) := by decide +kernel
abbrev y_H_isCommitted : MethodName := ⟨"HistoryJudge$History", "isCommitted", "(I)Z"⟩
abbrev b_H_isCommitted : ByteArray := prog_4_method_4_code
theorem d_H_isCommitted_0 : decode b_H_isCommitted 0 = .ok (.aload_n 0, 1) := by decide +kernel
theorem d_H_isCommitted_1 : decode b_H_isCommitted 1 = .ok (.getfield 9, 3) := by decide +kernel
theorem d_H_isCommitted_4 : decode b_H_isCommitted 4 = .ok (.iload_n 1, 1) := by decide +kernel
theorem d_H_isCommitted_5 : decode b_H_isCommitted 5 = .ok (.iaload, 1) := by decide +kernel
theorem d_H_isCommitted_6 : decode b_H_isCommitted 6 = .ok (.iconst 2, 1) := by decide +kernel
theorem d_H_isCommitted_7 : decode b_H_isCommitted 7 = .ok (.if_icmp .ne 7, 3) := by decide +kernel
theorem d_H_isCommitted_10 : decode b_H_isCommitted 10 = .ok (.iconst 1, 1) := by decide +kernel
theorem d_H_isCommitted_11 : decode b_H_isCommitted 11 = .ok (.goto 4, 3) := by decide +kernel
theorem d_H_isCommitted_14 : decode b_H_isCommitted 14 = .ok (.iconst 0, 1) := by decide +kernel
theorem d_H_isCommitted_15 : decode b_H_isCommitted 15 = .ok (.ireturn, 1) := by decide +kernel
abbrev y_H_isFinal : MethodName := ⟨"HistoryJudge$History", "isFinal", "(I)Z"⟩
abbrev b_H_isFinal : ByteArray := prog_4_method_11_code
theorem d_H_isFinal_0 : decode b_H_isFinal 0 = .ok (.aload_n 0, 1) := by decide +kernel
theorem d_H_isFinal_1 : decode b_H_isFinal 1 = .ok (.getfield 35, 3) := by decide +kernel
theorem d_H_isFinal_4 : decode b_H_isFinal 4 = .ok (.aload_n 0, 1) := by decide +kernel
theorem d_H_isFinal_5 : decode b_H_isFinal 5 = .ok (.getfield 15, 3) := by decide +kernel
theorem d_H_isFinal_8 : decode b_H_isFinal 8 = .ok (.iload_n 1, 1) := by decide +kernel
theorem d_H_isFinal_9 : decode b_H_isFinal 9 = .ok (.iaload, 1) := by decide +kernel
theorem d_H_isFinal_10 : decode b_H_isFinal 10 = .ok (.aaload, 1) := by decide +kernel
theorem d_H_isFinal_11 : decode b_H_isFinal 11 = .ok (.aload_n 0, 1) := by decide +kernel
theorem d_H_isFinal_12 : decode b_H_isFinal 12 = .ok (.getfield 18, 3) := by decide +kernel
theorem d_H_isFinal_15 : decode b_H_isFinal 15 = .ok (.iload_n 1, 1) := by decide +kernel
theorem d_H_isFinal_16 : decode b_H_isFinal 16 = .ok (.iaload, 1) := by decide +kernel
theorem d_H_isFinal_17 : decode b_H_isFinal 17 = .ok (.iaload, 1) := by decide +kernel
theorem d_H_isFinal_18 : decode b_H_isFinal 18 = .ok (.iload_n 1, 1) := by decide +kernel
theorem d_H_isFinal_19 : decode b_H_isFinal 19 = .ok (.if_icmp .ne 7, 3) := by decide +kernel
theorem d_H_isFinal_22 : decode b_H_isFinal 22 = .ok (.iconst 1, 1) := by decide +kernel
theorem d_H_isFinal_23 : decode b_H_isFinal 23 = .ok (.goto 4, 3) := by decide +kernel
theorem d_H_isFinal_26 : decode b_H_isFinal 26 = .ok (.iconst 0, 1) := by decide +kernel
theorem d_H_isFinal_27 : decode b_H_isFinal 27 = .ok (.ireturn, 1) := by decide +kernel
abbrev y_H_isJudgedRead : MethodName := ⟨"HistoryJudge$History", "isJudgedRead", "(I)Z"⟩
abbrev b_H_isJudgedRead : ByteArray := prog_4_method_16_code
theorem d_H_isJudgedRead_0 : decode b_H_isJudgedRead 0 = .ok (.aload_n 0, 1) := by decide +kernel
theorem d_H_isJudgedRead_1 : decode b_H_isJudgedRead 1 = .ok (.aload_n 0, 1) := by decide +kernel
theorem d_H_isJudgedRead_2 : decode b_H_isJudgedRead 2 = .ok (.getfield 21, 3) := by decide +kernel
theorem d_H_isJudgedRead_5 : decode b_H_isJudgedRead 5 = .ok (.iload_n 1, 1) := by decide +kernel
theorem d_H_isJudgedRead_6 : decode b_H_isJudgedRead 6 = .ok (.iaload, 1) := by decide +kernel
theorem d_H_isJudgedRead_7 : decode b_H_isJudgedRead 7 = .ok (.invokevirtual 60, 3) := by decide +kernel
theorem d_H_isJudgedRead_10 : decode b_H_isJudgedRead 10 = .ok (.ifCond .eq 17, 3) := by decide +kernel
theorem d_H_isJudgedRead_13 : decode b_H_isJudgedRead 13 = .ok (.aload_n 0, 1) := by decide +kernel
theorem d_H_isJudgedRead_14 : decode b_H_isJudgedRead 14 = .ok (.getfield 27, 3) := by decide +kernel
theorem d_H_isJudgedRead_17 : decode b_H_isJudgedRead 17 = .ok (.iload_n 1, 1) := by decide +kernel
theorem d_H_isJudgedRead_18 : decode b_H_isJudgedRead 18 = .ok (.iaload, 1) := by decide +kernel
theorem d_H_isJudgedRead_19 : decode b_H_isJudgedRead 19 = .ok (.iconst (-1), 1) := by decide +kernel
theorem d_H_isJudgedRead_20 : decode b_H_isJudgedRead 20 = .ok (.if_icmp .eq 7, 3) := by decide +kernel
theorem d_H_isJudgedRead_23 : decode b_H_isJudgedRead 23 = .ok (.iconst 1, 1) := by decide +kernel
theorem d_H_isJudgedRead_24 : decode b_H_isJudgedRead 24 = .ok (.goto 4, 3) := by decide +kernel
theorem d_H_isJudgedRead_27 : decode b_H_isJudgedRead 27 = .ok (.iconst 0, 1) := by decide +kernel
theorem d_H_isJudgedRead_28 : decode b_H_isJudgedRead 28 = .ok (.ireturn, 1) := by decide +kernel
abbrev y_H_isOfAnotherCommitted : MethodName := ⟨"HistoryJudge$History", "isOfAnotherCommitted", "(I)Z"⟩
abbrev b_H_isOfAnotherCommitted : ByteArray := prog_4_method_17_code
theorem d_H_isOfAnotherCommitted_0 : decode b_H_isOfAnotherCommitted 0 = .ok (.aload_n 0, 1) := by decide +kernel
theorem d_H_isOfAnotherCommitted_1 : decode b_H_isOfAnotherCommitted 1 = .ok (.getfield 15, 3) := by decide +kernel
theorem d_H_isOfAnotherCommitted_4 : decode b_H_isOfAnotherCommitted 4 = .ok (.aload_n 0, 1) := by decide +kernel
theorem d_H_isOfAnotherCommitted_5 : decode b_H_isOfAnotherCommitted 5 = .ok (.getfield 27, 3) := by decide +kernel
theorem d_H_isOfAnotherCommitted_8 : decode b_H_isOfAnotherCommitted 8 = .ok (.iload_n 1, 1) := by decide +kernel
theorem d_H_isOfAnotherCommitted_9 : decode b_H_isOfAnotherCommitted 9 = .ok (.iaload, 1) := by decide +kernel
theorem d_H_isOfAnotherCommitted_10 : decode b_H_isOfAnotherCommitted 10 = .ok (.iaload, 1) := by decide +kernel
theorem d_H_isOfAnotherCommitted_11 : decode b_H_isOfAnotherCommitted 11 = .ok (.istore_n 2, 1) := by decide +kernel
theorem d_H_isOfAnotherCommitted_12 : decode b_H_isOfAnotherCommitted 12 = .ok (.iload_n 2, 1) := by decide +kernel
theorem d_H_isOfAnotherCommitted_13 : decode b_H_isOfAnotherCommitted 13 = .ok (.aload_n 0, 1) := by decide +kernel
theorem d_H_isOfAnotherCommitted_14 : decode b_H_isOfAnotherCommitted 14 = .ok (.getfield 21, 3) := by decide +kernel
theorem d_H_isOfAnotherCommitted_17 : decode b_H_isOfAnotherCommitted 17 = .ok (.iload_n 1, 1) := by decide +kernel
theorem d_H_isOfAnotherCommitted_18 : decode b_H_isOfAnotherCommitted 18 = .ok (.iaload, 1) := by decide +kernel
theorem d_H_isOfAnotherCommitted_19 : decode b_H_isOfAnotherCommitted 19 = .ok (.if_icmp .eq 15, 3) := by decide +kernel
theorem d_H_isOfAnotherCommitted_22 : decode b_H_isOfAnotherCommitted 22 = .ok (.aload_n 0, 1) := by decide +kernel
theorem d_H_isOfAnotherCommitted_23 : decode b_H_isOfAnotherCommitted 23 = .ok (.iload_n 2, 1) := by decide +kernel
theorem d_H_isOfAnotherCommitted_24 : decode b_H_isOfAnotherCommitted 24 = .ok (.invokevirtual 60, 3) := by decide +kernel
theorem d_H_isOfAnotherCommitted_27 : decode b_H_isOfAnotherCommitted 27 = .ok (.ifCond .eq 7, 3) := by decide +kernel
theorem d_H_isOfAnotherCommitted_30 : decode b_H_isOfAnotherCommitted 30 = .ok (.iconst 1, 1) := by decide +kernel
theorem d_H_isOfAnotherCommitted_31 : decode b_H_isOfAnotherCommitted 31 = .ok (.goto 4, 3) := by decide +kernel
theorem d_H_isOfAnotherCommitted_34 : decode b_H_isOfAnotherCommitted 34 = .ok (.iconst 0, 1) := by decide +kernel
theorem d_H_isOfAnotherCommitted_35 : decode b_H_isOfAnotherCommitted 35 = .ok (.ireturn, 1) := by decide +kernel
abbrev y_H_placeBehind : MethodName := ⟨"HistoryJudge$History", "placeBehind", "(II)I"⟩
abbrev b_H_placeBehind : ByteArray := prog_4_method_13_code
theorem d_H_placeBehind_0 : decode b_H_placeBehind 0 = .ok (.iconst 0, 1) := by decide +kernel
theorem d_H_placeBehind_1 : decode b_H_placeBehind 1 = .ok (.istore_n 3, 1) := by decide +kernel
theorem d_H_placeBehind_2 : decode b_H_placeBehind 2 = .ok (.iload_n 3, 1) := by decide +kernel
theorem d_H_placeBehind_3 : decode b_H_placeBehind 3 = .ok (.aload_n 0, 1) := by decide +kernel
theorem d_H_placeBehind_4 : decode b_H_placeBehind 4 = .ok (.getfield 41, 3) := by decide +kernel
theorem d_H_placeBehind_7 : decode b_H_placeBehind 7 = .ok (.iload_n 1, 1) := by decide +kernel
theorem d_H_placeBehind_8 : decode b_H_placeBehind 8 = .ok (.iaload, 1) := by decide +kernel
theorem d_H_placeBehind_9 : decode b_H_placeBehind 9 = .ok (.if_icmp .ge 25, 3) := by decide +kernel
theorem d_H_placeBehind_12 : decode b_H_placeBehind 12 = .ok (.aload_n 0, 1) := by decide +kernel
theorem d_H_placeBehind_13 : decode b_H_placeBehind 13 = .ok (.getfield 38, 3) := by decide +kernel
theorem d_H_placeBehind_16 : decode b_H_placeBehind 16 = .ok (.iload_n 1, 1) := by decide +kernel
theorem d_H_placeBehind_17 : decode b_H_placeBehind 17 = .ok (.aaload, 1) := by decide +kernel
theorem d_H_placeBehind_18 : decode b_H_placeBehind 18 = .ok (.iload_n 3, 1) := by decide +kernel
theorem d_H_placeBehind_19 : decode b_H_placeBehind 19 = .ok (.iaload, 1) := by decide +kernel
theorem d_H_placeBehind_20 : decode b_H_placeBehind 20 = .ok (.iload_n 2, 1) := by decide +kernel
theorem d_H_placeBehind_21 : decode b_H_placeBehind 21 = .ok (.if_icmp .ne 7, 3) := by decide +kernel
theorem d_H_placeBehind_24 : decode b_H_placeBehind 24 = .ok (.iload_n 3, 1) := by decide +kernel
theorem d_H_placeBehind_25 : decode b_H_placeBehind 25 = .ok (.iconst 1, 1) := by decide +kernel
theorem d_H_placeBehind_26 : decode b_H_placeBehind 26 = .ok (.iadd, 1) := by decide +kernel
theorem d_H_placeBehind_27 : decode b_H_placeBehind 27 = .ok (.ireturn, 1) := by decide +kernel
theorem d_H_placeBehind_28 : decode b_H_placeBehind 28 = .ok (.iinc 3 1, 3) := by decide +kernel
theorem d_H_placeBehind_31 : decode b_H_placeBehind 31 = .ok (.goto (-29), 3) := by decide +kernel
theorem d_H_placeBehind_34 : decode b_H_placeBehind 34 = .ok (.aload_n 0, 1) := by decide +kernel
theorem d_H_placeBehind_35 : decode b_H_placeBehind 35 = .ok (.getfield 41, 3) := by decide +kernel
theorem d_H_placeBehind_38 : decode b_H_placeBehind 38 = .ok (.iload_n 1, 1) := by decide +kernel
theorem d_H_placeBehind_39 : decode b_H_placeBehind 39 = .ok (.iaload, 1) := by decide +kernel
theorem d_H_placeBehind_40 : decode b_H_placeBehind 40 = .ok (.ireturn, 1) := by decide +kernel
abbrev y_H_reset : MethodName := ⟨"HistoryJudge$History", "reset", "()V"⟩
abbrev b_H_reset : ByteArray := prog_4_method_2_code
theorem d_H_reset_0 : decode b_H_reset 0 = .ok (.aload_n 0, 1) := by decide +kernel
theorem d_H_reset_1 : decode b_H_reset 1 = .ok (.iconst 0, 1) := by decide +kernel
theorem d_H_reset_2 : decode b_H_reset 2 = .ok (.putfield 47, 3) := by decide +kernel
theorem d_H_reset_5 : decode b_H_reset 5 = .ok (.aload_n 0, 1) := by decide +kernel
theorem d_H_reset_6 : decode b_H_reset 6 = .ok (.iconst 0, 1) := by decide +kernel
theorem d_H_reset_7 : decode b_H_reset 7 = .ok (.putfield 51, 3) := by decide +kernel
theorem d_H_reset_10 : decode b_H_reset 10 = .ok (.aload_n 0, 1) := by decide +kernel
theorem d_H_reset_11 : decode b_H_reset 11 = .ok (.getfield 9, 3) := by decide +kernel
theorem d_H_reset_14 : decode b_H_reset 14 = .ok (.iconst 0, 1) := by decide +kernel
theorem d_H_reset_15 : decode b_H_reset 15 = .ok (.invokestatic 54, 3) := by decide +kernel
theorem d_H_reset_18 : decode b_H_reset 18 = .ok (.aload_n 0, 1) := by decide +kernel
theorem d_H_reset_19 : decode b_H_reset 19 = .ok (.getfield 41, 3) := by decide +kernel
theorem d_H_reset_22 : decode b_H_reset 22 = .ok (.iconst 0, 1) := by decide +kernel
theorem d_H_reset_23 : decode b_H_reset 23 = .ok (.invokestatic 54, 3) := by decide +kernel
theorem d_H_reset_26 : decode b_H_reset 26 = .ok (.iconst 0, 1) := by decide +kernel
theorem d_H_reset_27 : decode b_H_reset 27 = .ok (.istore_n 1, 1) := by decide +kernel
theorem d_H_reset_28 : decode b_H_reset 28 = .ok (.iload_n 1, 1) := by decide +kernel
theorem d_H_reset_29 : decode b_H_reset 29 = .ok (.bipush 8, 2) := by decide +kernel
theorem d_H_reset_31 : decode b_H_reset 31 = .ok (.if_icmp .ge 19, 3) := by decide +kernel
theorem d_H_reset_34 : decode b_H_reset 34 = .ok (.aload_n 0, 1) := by decide +kernel
theorem d_H_reset_35 : decode b_H_reset 35 = .ok (.getfield 35, 3) := by decide +kernel
theorem d_H_reset_38 : decode b_H_reset 38 = .ok (.iload_n 1, 1) := by decide +kernel
theorem d_H_reset_39 : decode b_H_reset 39 = .ok (.aaload, 1) := by decide +kernel
theorem d_H_reset_40 : decode b_H_reset 40 = .ok (.iconst (-1), 1) := by decide +kernel
theorem d_H_reset_41 : decode b_H_reset 41 = .ok (.invokestatic 54, 3) := by decide +kernel
theorem d_H_reset_44 : decode b_H_reset 44 = .ok (.iinc 1 1, 3) := by decide +kernel
theorem d_H_reset_47 : decode b_H_reset 47 = .ok (.goto (-19), 3) := by decide +kernel
theorem d_H_reset_50 : decode b_H_reset 50 = .ok (.return_, 1) := by decide +kernel
abbrev y_H_writerOfNext : MethodName := ⟨"HistoryJudge$History", "writerOfNext", "(II)I"⟩
abbrev b_H_writerOfNext : ByteArray := prog_4_method_12_code
theorem d_H_writerOfNext_0 : decode b_H_writerOfNext 0 = .ok (.iload_n 2, 1) := by decide +kernel
theorem d_H_writerOfNext_1 : decode b_H_writerOfNext 1 = .ok (.iconst (-1), 1) := by decide +kernel
theorem d_H_writerOfNext_2 : decode b_H_writerOfNext 2 = .ok (.if_icmp .ne 7, 3) := by decide +kernel
theorem d_H_writerOfNext_5 : decode b_H_writerOfNext 5 = .ok (.iconst 0, 1) := by decide +kernel
theorem d_H_writerOfNext_6 : decode b_H_writerOfNext 6 = .ok (.goto 9, 3) := by decide +kernel
theorem d_H_writerOfNext_9 : decode b_H_writerOfNext 9 = .ok (.aload_n 0, 1) := by decide +kernel
theorem d_H_writerOfNext_10 : decode b_H_writerOfNext 10 = .ok (.iload_n 1, 1) := by decide +kernel
theorem d_H_writerOfNext_11 : decode b_H_writerOfNext 11 = .ok (.iload_n 2, 1) := by decide +kernel
theorem d_H_writerOfNext_12 : decode b_H_writerOfNext 12 = .ok (.invokevirtual 68, 3) := by decide +kernel
theorem d_H_writerOfNext_15 : decode b_H_writerOfNext 15 = .ok (.istore_n 3, 1) := by decide +kernel
theorem d_H_writerOfNext_16 : decode b_H_writerOfNext 16 = .ok (.iload_n 3, 1) := by decide +kernel
theorem d_H_writerOfNext_17 : decode b_H_writerOfNext 17 = .ok (.aload_n 0, 1) := by decide +kernel
theorem d_H_writerOfNext_18 : decode b_H_writerOfNext 18 = .ok (.getfield 41, 3) := by decide +kernel
theorem d_H_writerOfNext_21 : decode b_H_writerOfNext 21 = .ok (.iload_n 1, 1) := by decide +kernel
theorem d_H_writerOfNext_22 : decode b_H_writerOfNext 22 = .ok (.iaload, 1) := by decide +kernel
theorem d_H_writerOfNext_23 : decode b_H_writerOfNext 23 = .ok (.if_icmp .ge 19, 3) := by decide +kernel
theorem d_H_writerOfNext_26 : decode b_H_writerOfNext 26 = .ok (.aload_n 0, 1) := by decide +kernel
theorem d_H_writerOfNext_27 : decode b_H_writerOfNext 27 = .ok (.getfield 15, 3) := by decide +kernel
theorem d_H_writerOfNext_30 : decode b_H_writerOfNext 30 = .ok (.aload_n 0, 1) := by decide +kernel
theorem d_H_writerOfNext_31 : decode b_H_writerOfNext 31 = .ok (.getfield 38, 3) := by decide +kernel
theorem d_H_writerOfNext_34 : decode b_H_writerOfNext 34 = .ok (.iload_n 1, 1) := by decide +kernel
theorem d_H_writerOfNext_35 : decode b_H_writerOfNext 35 = .ok (.aaload, 1) := by decide +kernel
theorem d_H_writerOfNext_36 : decode b_H_writerOfNext 36 = .ok (.iload_n 3, 1) := by decide +kernel
theorem d_H_writerOfNext_37 : decode b_H_writerOfNext 37 = .ok (.iaload, 1) := by decide +kernel
theorem d_H_writerOfNext_38 : decode b_H_writerOfNext 38 = .ok (.iaload, 1) := by decide +kernel
theorem d_H_writerOfNext_39 : decode b_H_writerOfNext 39 = .ok (.goto 4, 3) := by decide +kernel
theorem d_H_writerOfNext_42 : decode b_H_writerOfNext 42 = .ok (.iconst (-1), 1) := by decide +kernel
theorem d_H_writerOfNext_43 : decode b_H_writerOfNext 43 = .ok (.ireturn, 1) := by decide +kernel
abbrev y_I_bitCount : MethodName := ⟨"java/lang/Integer", "bitCount", "(I)I"⟩
abbrev b_I_bitCount : ByteArray := prog_11_method_49_code
theorem d_I_bitCount_0 : decode b_I_bitCount 0 = .ok (.iload_n 0, 1) := by decide +kernel
theorem d_I_bitCount_1 : decode b_I_bitCount 1 = .ok (.iload_n 0, 1) := by decide +kernel
theorem d_I_bitCount_2 : decode b_I_bitCount 2 = .ok (.iconst 1, 1) := by decide +kernel
theorem d_I_bitCount_3 : decode b_I_bitCount 3 = .ok (.iushr, 1) := by decide +kernel
theorem d_I_bitCount_4 : decode b_I_bitCount 4 = .ok (.ldc_w 265, 3) := by decide +kernel
theorem d_I_bitCount_7 : decode b_I_bitCount 7 = .ok (.iand, 1) := by decide +kernel
theorem d_I_bitCount_8 : decode b_I_bitCount 8 = .ok (.isub, 1) := by decide +kernel
theorem d_I_bitCount_9 : decode b_I_bitCount 9 = .ok (.istore_n 0, 1) := by decide +kernel
theorem d_I_bitCount_10 : decode b_I_bitCount 10 = .ok (.iload_n 0, 1) := by decide +kernel
theorem d_I_bitCount_11 : decode b_I_bitCount 11 = .ok (.ldc_w 266, 3) := by decide +kernel
theorem d_I_bitCount_14 : decode b_I_bitCount 14 = .ok (.iand, 1) := by decide +kernel
theorem d_I_bitCount_15 : decode b_I_bitCount 15 = .ok (.iload_n 0, 1) := by decide +kernel
theorem d_I_bitCount_16 : decode b_I_bitCount 16 = .ok (.iconst 2, 1) := by decide +kernel
theorem d_I_bitCount_17 : decode b_I_bitCount 17 = .ok (.iushr, 1) := by decide +kernel
theorem d_I_bitCount_18 : decode b_I_bitCount 18 = .ok (.ldc_w 266, 3) := by decide +kernel
theorem d_I_bitCount_21 : decode b_I_bitCount 21 = .ok (.iand, 1) := by decide +kernel
theorem d_I_bitCount_22 : decode b_I_bitCount 22 = .ok (.iadd, 1) := by decide +kernel
theorem d_I_bitCount_23 : decode b_I_bitCount 23 = .ok (.istore_n 0, 1) := by decide +kernel
theorem d_I_bitCount_24 : decode b_I_bitCount 24 = .ok (.iload_n 0, 1) := by decide +kernel
theorem d_I_bitCount_25 : decode b_I_bitCount 25 = .ok (.iload_n 0, 1) := by decide +kernel
theorem d_I_bitCount_26 : decode b_I_bitCount 26 = .ok (.iconst 4, 1) := by decide +kernel
theorem d_I_bitCount_27 : decode b_I_bitCount 27 = .ok (.iushr, 1) := by decide +kernel
theorem d_I_bitCount_28 : decode b_I_bitCount 28 = .ok (.iadd, 1) := by decide +kernel
theorem d_I_bitCount_29 : decode b_I_bitCount 29 = .ok (.ldc_w 267, 3) := by decide +kernel
theorem d_I_bitCount_32 : decode b_I_bitCount 32 = .ok (.iand, 1) := by decide +kernel
theorem d_I_bitCount_33 : decode b_I_bitCount 33 = .ok (.istore_n 0, 1) := by decide +kernel
theorem d_I_bitCount_34 : decode b_I_bitCount 34 = .ok (.iload_n 0, 1) := by decide +kernel
theorem d_I_bitCount_35 : decode b_I_bitCount 35 = .ok (.iload_n 0, 1) := by decide +kernel
theorem d_I_bitCount_36 : decode b_I_bitCount 36 = .ok (.bipush 8, 2) := by decide +kernel
theorem d_I_bitCount_38 : decode b_I_bitCount 38 = .ok (.iushr, 1) := by decide +kernel
theorem d_I_bitCount_39 : decode b_I_bitCount 39 = .ok (.iadd, 1) := by decide +kernel
theorem d_I_bitCount_40 : decode b_I_bitCount 40 = .ok (.istore_n 0, 1) := by decide +kernel
theorem d_I_bitCount_41 : decode b_I_bitCount 41 = .ok (.iload_n 0, 1) := by decide +kernel
theorem d_I_bitCount_42 : decode b_I_bitCount 42 = .ok (.iload_n 0, 1) := by decide +kernel
theorem d_I_bitCount_43 : decode b_I_bitCount 43 = .ok (.bipush 16, 2) := by decide +kernel
theorem d_I_bitCount_45 : decode b_I_bitCount 45 = .ok (.iushr, 1) := by decide +kernel
theorem d_I_bitCount_46 : decode b_I_bitCount 46 = .ok (.iadd, 1) := by decide +kernel
theorem d_I_bitCount_47 : decode b_I_bitCount 47 = .ok (.istore_n 0, 1) := by decide +kernel
theorem d_I_bitCount_48 : decode b_I_bitCount 48 = .ok (.iload_n 0, 1) := by decide +kernel
theorem d_I_bitCount_49 : decode b_I_bitCount 49 = .ok (.bipush 63, 2) := by decide +kernel
theorem d_I_bitCount_51 : decode b_I_bitCount 51 = .ok (.iand, 1) := by decide +kernel
theorem d_I_bitCount_52 : decode b_I_bitCount 52 = .ok (.ireturn, 1) := by decide +kernel
abbrev y_J_beginnings : MethodName := ⟨"HistoryJudge", "beginnings", "()I"⟩
abbrev b_J_beginnings : ByteArray := prog_1_method_15_code
theorem d_J_beginnings_0 : decode b_J_beginnings 0 = .ok (.aload_n 0, 1) := by decide +kernel
theorem d_J_beginnings_1 : decode b_J_beginnings 1 = .ok (.getfield 33, 3) := by decide +kernel
theorem d_J_beginnings_4 : decode b_J_beginnings 4 = .ok (.aload_n 0, 1) := by decide +kernel
theorem d_J_beginnings_5 : decode b_J_beginnings 5 = .ok (.getfield 10, 3) := by decide +kernel
theorem d_J_beginnings_8 : decode b_J_beginnings 8 = .ok (.invokevirtual 131, 3) := by decide +kernel
theorem d_J_beginnings_11 : decode b_J_beginnings 11 = .ok (.aload_n 0, 1) := by decide +kernel
theorem d_J_beginnings_12 : decode b_J_beginnings 12 = .ok (.getfield 33, 3) := by decide +kernel
theorem d_J_beginnings_15 : decode b_J_beginnings 15 = .ok (.getfield 140, 3) := by decide +kernel
theorem d_J_beginnings_18 : decode b_J_beginnings 18 = .ok (.iconst 0, 1) := by decide +kernel
theorem d_J_beginnings_19 : decode b_J_beginnings 19 = .ok (.iaload, 1) := by decide +kernel
theorem d_J_beginnings_20 : decode b_J_beginnings 20 = .ok (.invokestatic 143, 3) := by decide +kernel
theorem d_J_beginnings_23 : decode b_J_beginnings 23 = .ok (.ireturn, 1) := by decide +kernel
abbrev y_J_clear : MethodName := ⟨"HistoryJudge", "clear", "()I"⟩
abbrev b_J_clear : ByteArray := prog_1_method_16_code
theorem d_J_clear_0 : decode b_J_clear 0 = .ok (.aload_n 0, 1) := by decide +kernel
theorem d_J_clear_1 : decode b_J_clear 1 = .ok (.getfield 10, 3) := by decide +kernel
theorem d_J_clear_4 : decode b_J_clear 4 = .ok (.getfield 53, 3) := by decide +kernel
theorem d_J_clear_7 : decode b_J_clear 7 = .ok (.istore_n 1, 1) := by decide +kernel
theorem d_J_clear_8 : decode b_J_clear 8 = .ok (.aload_n 0, 1) := by decide +kernel
theorem d_J_clear_9 : decode b_J_clear 9 = .ok (.getfield 10, 3) := by decide +kernel
theorem d_J_clear_12 : decode b_J_clear 12 = .ok (.invokevirtual 148, 3) := by decide +kernel
theorem d_J_clear_15 : decode b_J_clear 15 = .ok (.iload_n 1, 1) := by decide +kernel
theorem d_J_clear_16 : decode b_J_clear 16 = .ok (.ireturn, 1) := by decide +kernel
abbrev y_J_cycle : MethodName := ⟨"HistoryJudge", "cycle", "(I)I"⟩
abbrev b_J_cycle : ByteArray := prog_1_method_11_code
theorem d_J_cycle_0 : decode b_J_cycle 0 = .ok (.iload_n 1, 1) := by decide +kernel
theorem d_J_cycle_1 : decode b_J_cycle 1 = .ok (.ifCond .lt 8, 3) := by decide +kernel
theorem d_J_cycle_4 : decode b_J_cycle 4 = .ok (.iload_n 1, 1) := by decide +kernel
theorem d_J_cycle_5 : decode b_J_cycle 5 = .ok (.iconst 4, 1) := by decide +kernel
theorem d_J_cycle_6 : decode b_J_cycle 6 = .ok (.if_icmp .lt 5, 3) := by decide +kernel
theorem d_J_cycle_9 : decode b_J_cycle 9 = .ok (.iconst 0, 1) := by decide +kernel
theorem d_J_cycle_10 : decode b_J_cycle 10 = .ok (.ireturn, 1) := by decide +kernel
theorem d_J_cycle_11 : decode b_J_cycle 11 = .ok (.aload_n 0, 1) := by decide +kernel
theorem d_J_cycle_12 : decode b_J_cycle 12 = .ok (.getfield 19, 3) := by decide +kernel
theorem d_J_cycle_15 : decode b_J_cycle 15 = .ok (.aload_n 0, 1) := by decide +kernel
theorem d_J_cycle_16 : decode b_J_cycle 16 = .ok (.getfield 10, 3) := by decide +kernel
theorem d_J_cycle_19 : decode b_J_cycle 19 = .ok (.invokevirtual 93, 3) := by decide +kernel
theorem d_J_cycle_22 : decode b_J_cycle 22 = .ok (.aload_n 0, 1) := by decide +kernel
theorem d_J_cycle_23 : decode b_J_cycle 23 = .ok (.getfield 26, 3) := by decide +kernel
theorem d_J_cycle_26 : decode b_J_cycle 26 = .ok (.aload_n 0, 1) := by decide +kernel
theorem d_J_cycle_27 : decode b_J_cycle 27 = .ok (.getfield 19, 3) := by decide +kernel
theorem d_J_cycle_30 : decode b_J_cycle 30 = .ok (.iload_n 1, 1) := by decide +kernel
theorem d_J_cycle_31 : decode b_J_cycle 31 = .ok (.invokevirtual 109, 3) := by decide +kernel
theorem d_J_cycle_34 : decode b_J_cycle 34 = .ok (.ireturn, 1) := by decide +kernel
abbrev y_J_edges : MethodName := ⟨"HistoryJudge", "edges", "(II)I"⟩
abbrev b_J_edges : ByteArray := prog_1_method_8_code
theorem d_J_edges_0 : decode b_J_edges 0 = .ok (.iload_n 1, 1) := by decide +kernel
theorem d_J_edges_1 : decode b_J_edges 1 = .ok (.invokestatic 37, 3) := by decide +kernel
theorem d_J_edges_4 : decode b_J_edges 4 = .ok (.ifCond .eq 10, 3) := by decide +kernel
theorem d_J_edges_7 : decode b_J_edges 7 = .ok (.iload_n 2, 1) := by decide +kernel
theorem d_J_edges_8 : decode b_J_edges 8 = .ok (.invokestatic 37, 3) := by decide +kernel
theorem d_J_edges_11 : decode b_J_edges 11 = .ok (.ifCond .ne 5, 3) := by decide +kernel
theorem d_J_edges_14 : decode b_J_edges 14 = .ok (.iconst 0, 1) := by decide +kernel
theorem d_J_edges_15 : decode b_J_edges 15 = .ok (.ireturn, 1) := by decide +kernel
theorem d_J_edges_16 : decode b_J_edges 16 = .ok (.aload_n 0, 1) := by decide +kernel
theorem d_J_edges_17 : decode b_J_edges 17 = .ok (.getfield 19, 3) := by decide +kernel
theorem d_J_edges_20 : decode b_J_edges 20 = .ok (.aload_n 0, 1) := by decide +kernel
theorem d_J_edges_21 : decode b_J_edges 21 = .ok (.getfield 10, 3) := by decide +kernel
theorem d_J_edges_24 : decode b_J_edges 24 = .ok (.invokevirtual 93, 3) := by decide +kernel
theorem d_J_edges_27 : decode b_J_edges 27 = .ok (.aload_n 0, 1) := by decide +kernel
theorem d_J_edges_28 : decode b_J_edges 28 = .ok (.getfield 19, 3) := by decide +kernel
theorem d_J_edges_31 : decode b_J_edges 31 = .ok (.getfield 97, 3) := by decide +kernel
theorem d_J_edges_34 : decode b_J_edges 34 = .ok (.iload_n 1, 1) := by decide +kernel
theorem d_J_edges_35 : decode b_J_edges 35 = .ok (.iaload, 1) := by decide +kernel
theorem d_J_edges_36 : decode b_J_edges 36 = .ok (.iload_n 2, 1) := by decide +kernel
theorem d_J_edges_37 : decode b_J_edges 37 = .ok (.invokestatic 100, 3) := by decide +kernel
theorem d_J_edges_40 : decode b_J_edges 40 = .ok (.ifCond .eq 7, 3) := by decide +kernel
theorem d_J_edges_43 : decode b_J_edges 43 = .ok (.iconst 1, 1) := by decide +kernel
theorem d_J_edges_44 : decode b_J_edges 44 = .ok (.goto 4, 3) := by decide +kernel
theorem d_J_edges_47 : decode b_J_edges 47 = .ok (.iconst 0, 1) := by decide +kernel
theorem d_J_edges_48 : decode b_J_edges 48 = .ok (.aload_n 0, 1) := by decide +kernel
theorem d_J_edges_49 : decode b_J_edges 49 = .ok (.getfield 19, 3) := by decide +kernel
theorem d_J_edges_52 : decode b_J_edges 52 = .ok (.getfield 103, 3) := by decide +kernel
theorem d_J_edges_55 : decode b_J_edges 55 = .ok (.iload_n 1, 1) := by decide +kernel
theorem d_J_edges_56 : decode b_J_edges 56 = .ok (.iaload, 1) := by decide +kernel
theorem d_J_edges_57 : decode b_J_edges 57 = .ok (.iload_n 2, 1) := by decide +kernel
theorem d_J_edges_58 : decode b_J_edges 58 = .ok (.invokestatic 100, 3) := by decide +kernel
theorem d_J_edges_61 : decode b_J_edges 61 = .ok (.ifCond .eq 7, 3) := by decide +kernel
theorem d_J_edges_64 : decode b_J_edges 64 = .ok (.iconst 2, 1) := by decide +kernel
theorem d_J_edges_65 : decode b_J_edges 65 = .ok (.goto 4, 3) := by decide +kernel
theorem d_J_edges_68 : decode b_J_edges 68 = .ok (.iconst 0, 1) := by decide +kernel
theorem d_J_edges_69 : decode b_J_edges 69 = .ok (.iadd, 1) := by decide +kernel
theorem d_J_edges_70 : decode b_J_edges 70 = .ok (.aload_n 0, 1) := by decide +kernel
theorem d_J_edges_71 : decode b_J_edges 71 = .ok (.getfield 19, 3) := by decide +kernel
theorem d_J_edges_74 : decode b_J_edges 74 = .ok (.getfield 106, 3) := by decide +kernel
theorem d_J_edges_77 : decode b_J_edges 77 = .ok (.iload_n 1, 1) := by decide +kernel
theorem d_J_edges_78 : decode b_J_edges 78 = .ok (.iaload, 1) := by decide +kernel
theorem d_J_edges_79 : decode b_J_edges 79 = .ok (.iload_n 2, 1) := by decide +kernel
theorem d_J_edges_80 : decode b_J_edges 80 = .ok (.invokestatic 100, 3) := by decide +kernel
theorem d_J_edges_83 : decode b_J_edges 83 = .ok (.ifCond .eq 7, 3) := by decide +kernel
theorem d_J_edges_86 : decode b_J_edges 86 = .ok (.iconst 4, 1) := by decide +kernel
theorem d_J_edges_87 : decode b_J_edges 87 = .ok (.goto 4, 3) := by decide +kernel
theorem d_J_edges_90 : decode b_J_edges 90 = .ok (.iconst 0, 1) := by decide +kernel
theorem d_J_edges_91 : decode b_J_edges 91 = .ok (.iadd, 1) := by decide +kernel
theorem d_J_edges_92 : decode b_J_edges 92 = .ok (.ireturn, 1) := by decide +kernel
abbrev y_J_end : MethodName := ⟨"HistoryJudge", "end", "(IZ)V"⟩
abbrev b_J_end : ByteArray := prog_1_method_4_code
theorem d_J_end_0 : decode b_J_end 0 = .ok (.iload_n 1, 1) := by decide +kernel
theorem d_J_end_1 : decode b_J_end 1 = .ok (.invokestatic 37, 3) := by decide +kernel
theorem d_J_end_4 : decode b_J_end 4 = .ok (.ifCond .ne 11, 3) := by decide +kernel
theorem d_J_end_7 : decode b_J_end 7 = .ok (.new 44, 3) := by decide +kernel
theorem d_J_end_10 : decode b_J_end 10 = .ok (.dup, 1) := by decide +kernel
theorem d_J_end_11 : decode b_J_end 11 = .ok (.invokespecial 46, 3) := by decide +kernel
theorem d_J_end_14 : decode b_J_end 14 = .ok (.athrow, 1) := by decide +kernel
theorem d_J_end_15 : decode b_J_end 15 = .ok (.aload_n 0, 1) := by decide +kernel
theorem d_J_end_16 : decode b_J_end 16 = .ok (.getfield 10, 3) := by decide +kernel
theorem d_J_end_19 : decode b_J_end 19 = .ok (.getfield 78, 3) := by decide +kernel
theorem d_J_end_22 : decode b_J_end 22 = .ok (.iload_n 1, 1) := by decide +kernel
theorem d_J_end_23 : decode b_J_end 23 = .ok (.iaload, 1) := by decide +kernel
theorem d_J_end_24 : decode b_J_end 24 = .ok (.iconst 1, 1) := by decide +kernel
theorem d_J_end_25 : decode b_J_end 25 = .ok (.if_icmp .eq 11, 3) := by decide +kernel
theorem d_J_end_28 : decode b_J_end 28 = .ok (.new 50, 3) := by decide +kernel
theorem d_J_end_31 : decode b_J_end 31 = .ok (.dup, 1) := by decide +kernel
theorem d_J_end_32 : decode b_J_end 32 = .ok (.invokespecial 52, 3) := by decide +kernel
theorem d_J_end_35 : decode b_J_end 35 = .ok (.athrow, 1) := by decide +kernel
theorem d_J_end_36 : decode b_J_end 36 = .ok (.iload_n 2, 1) := by decide +kernel
theorem d_J_end_37 : decode b_J_end 37 = .ok (.ifCond .eq 14, 3) := by decide +kernel
theorem d_J_end_40 : decode b_J_end 40 = .ok (.aload_n 0, 1) := by decide +kernel
theorem d_J_end_41 : decode b_J_end 41 = .ok (.getfield 10, 3) := by decide +kernel
theorem d_J_end_44 : decode b_J_end 44 = .ok (.iload_n 1, 1) := by decide +kernel
theorem d_J_end_45 : decode b_J_end 45 = .ok (.invokevirtual 82, 3) := by decide +kernel
theorem d_J_end_48 : decode b_J_end 48 = .ok (.goto 13, 3) := by decide +kernel
theorem d_J_end_51 : decode b_J_end 51 = .ok (.aload_n 0, 1) := by decide +kernel
theorem d_J_end_52 : decode b_J_end 52 = .ok (.getfield 10, 3) := by decide +kernel
theorem d_J_end_55 : decode b_J_end 55 = .ok (.getfield 78, 3) := by decide +kernel
theorem d_J_end_58 : decode b_J_end 58 = .ok (.iload_n 1, 1) := by decide +kernel
theorem d_J_end_59 : decode b_J_end 59 = .ok (.iconst 3, 1) := by decide +kernel
theorem d_J_end_60 : decode b_J_end 60 = .ok (.iastore, 1) := by decide +kernel
theorem d_J_end_61 : decode b_J_end 61 = .ok (.return_, 1) := by decide +kernel
abbrev y_J_exchange : MethodName := ⟨"HistoryJudge", "exchange", "(II)Z"⟩
abbrev b_J_exchange : ByteArray := prog_1_method_7_code
theorem d_J_exchange_0 : decode b_J_exchange 0 = .ok (.iload_n 1, 1) := by decide +kernel
theorem d_J_exchange_1 : decode b_J_exchange 1 = .ok (.invokestatic 41, 3) := by decide +kernel
theorem d_J_exchange_4 : decode b_J_exchange 4 = .ok (.ifCond .eq 22, 3) := by decide +kernel
theorem d_J_exchange_7 : decode b_J_exchange 7 = .ok (.iload_n 2, 1) := by decide +kernel
theorem d_J_exchange_8 : decode b_J_exchange 8 = .ok (.ifCond .lt 18, 3) := by decide +kernel
theorem d_J_exchange_11 : decode b_J_exchange 11 = .ok (.iload_n 2, 1) := by decide +kernel
theorem d_J_exchange_12 : decode b_J_exchange 12 = .ok (.aload_n 0, 1) := by decide +kernel
theorem d_J_exchange_13 : decode b_J_exchange 13 = .ok (.getfield 10, 3) := by decide +kernel
theorem d_J_exchange_16 : decode b_J_exchange 16 = .ok (.getfield 86, 3) := by decide +kernel
theorem d_J_exchange_19 : decode b_J_exchange 19 = .ok (.iload_n 1, 1) := by decide +kernel
theorem d_J_exchange_20 : decode b_J_exchange 20 = .ok (.iaload, 1) := by decide +kernel
theorem d_J_exchange_21 : decode b_J_exchange 21 = .ok (.iconst 1, 1) := by decide +kernel
theorem d_J_exchange_22 : decode b_J_exchange 22 = .ok (.isub, 1) := by decide +kernel
theorem d_J_exchange_23 : decode b_J_exchange 23 = .ok (.if_icmp .lt 5, 3) := by decide +kernel
theorem d_J_exchange_26 : decode b_J_exchange 26 = .ok (.iconst 0, 1) := by decide +kernel
theorem d_J_exchange_27 : decode b_J_exchange 27 = .ok (.ireturn, 1) := by decide +kernel
theorem d_J_exchange_28 : decode b_J_exchange 28 = .ok (.aload_n 0, 1) := by decide +kernel
theorem d_J_exchange_29 : decode b_J_exchange 29 = .ok (.getfield 10, 3) := by decide +kernel
theorem d_J_exchange_32 : decode b_J_exchange 32 = .ok (.getfield 89, 3) := by decide +kernel
theorem d_J_exchange_35 : decode b_J_exchange 35 = .ok (.iload_n 1, 1) := by decide +kernel
theorem d_J_exchange_36 : decode b_J_exchange 36 = .ok (.aaload, 1) := by decide +kernel
theorem d_J_exchange_37 : decode b_J_exchange 37 = .ok (.astore_n 3, 1) := by decide +kernel
theorem d_J_exchange_38 : decode b_J_exchange 38 = .ok (.aload_n 3, 1) := by decide +kernel
theorem d_J_exchange_39 : decode b_J_exchange 39 = .ok (.iload_n 2, 1) := by decide +kernel
theorem d_J_exchange_40 : decode b_J_exchange 40 = .ok (.iaload, 1) := by decide +kernel
theorem d_J_exchange_41 : decode b_J_exchange 41 = .ok (.istore 4, 2) := by decide +kernel
theorem d_J_exchange_43 : decode b_J_exchange 43 = .ok (.aload_n 3, 1) := by decide +kernel
theorem d_J_exchange_44 : decode b_J_exchange 44 = .ok (.iload_n 2, 1) := by decide +kernel
theorem d_J_exchange_45 : decode b_J_exchange 45 = .ok (.aload_n 3, 1) := by decide +kernel
theorem d_J_exchange_46 : decode b_J_exchange 46 = .ok (.iload_n 2, 1) := by decide +kernel
theorem d_J_exchange_47 : decode b_J_exchange 47 = .ok (.iconst 1, 1) := by decide +kernel
theorem d_J_exchange_48 : decode b_J_exchange 48 = .ok (.iadd, 1) := by decide +kernel
theorem d_J_exchange_49 : decode b_J_exchange 49 = .ok (.iaload, 1) := by decide +kernel
theorem d_J_exchange_50 : decode b_J_exchange 50 = .ok (.iastore, 1) := by decide +kernel
theorem d_J_exchange_51 : decode b_J_exchange 51 = .ok (.aload_n 3, 1) := by decide +kernel
theorem d_J_exchange_52 : decode b_J_exchange 52 = .ok (.iload_n 2, 1) := by decide +kernel
theorem d_J_exchange_53 : decode b_J_exchange 53 = .ok (.iconst 1, 1) := by decide +kernel
theorem d_J_exchange_54 : decode b_J_exchange 54 = .ok (.iadd, 1) := by decide +kernel
theorem d_J_exchange_55 : decode b_J_exchange 55 = .ok (.iload 4, 2) := by decide +kernel
theorem d_J_exchange_57 : decode b_J_exchange 57 = .ok (.iastore, 1) := by decide +kernel
theorem d_J_exchange_58 : decode b_J_exchange 58 = .ok (.iconst 1, 1) := by decide +kernel
theorem d_J_exchange_59 : decode b_J_exchange 59 = .ok (.ireturn, 1) := by decide +kernel
abbrev y_J_flaws : MethodName := ⟨"HistoryJudge", "flaws", "()I"⟩
abbrev b_J_flaws : ByteArray := prog_1_method_9_code
theorem d_J_flaws_0 : decode b_J_flaws 0 = .ok (.aload_n 0, 1) := by decide +kernel
theorem d_J_flaws_1 : decode b_J_flaws 1 = .ok (.getfield 19, 3) := by decide +kernel
theorem d_J_flaws_4 : decode b_J_flaws 4 = .ok (.aload_n 0, 1) := by decide +kernel
theorem d_J_flaws_5 : decode b_J_flaws 5 = .ok (.getfield 10, 3) := by decide +kernel
theorem d_J_flaws_8 : decode b_J_flaws 8 = .ok (.invokevirtual 93, 3) := by decide +kernel
theorem d_J_flaws_11 : decode b_J_flaws 11 = .ok (.aload_n 0, 1) := by decide +kernel
theorem d_J_flaws_12 : decode b_J_flaws 12 = .ok (.getfield 26, 3) := by decide +kernel
theorem d_J_flaws_15 : decode b_J_flaws 15 = .ok (.aload_n 0, 1) := by decide +kernel
theorem d_J_flaws_16 : decode b_J_flaws 16 = .ok (.getfield 19, 3) := by decide +kernel
theorem d_J_flaws_19 : decode b_J_flaws 19 = .ok (.iconst 0, 1) := by decide +kernel
theorem d_J_flaws_20 : decode b_J_flaws 20 = .ok (.invokevirtual 109, 3) := by decide +kernel
theorem d_J_flaws_23 : decode b_J_flaws 23 = .ok (.ifCond .eq 7, 3) := by decide +kernel
theorem d_J_flaws_26 : decode b_J_flaws 26 = .ok (.iconst 1, 1) := by decide +kernel
theorem d_J_flaws_27 : decode b_J_flaws 27 = .ok (.goto 4, 3) := by decide +kernel
theorem d_J_flaws_30 : decode b_J_flaws 30 = .ok (.iconst 0, 1) := by decide +kernel
theorem d_J_flaws_31 : decode b_J_flaws 31 = .ok (.aload_n 0, 1) := by decide +kernel
theorem d_J_flaws_32 : decode b_J_flaws 32 = .ok (.getfield 10, 3) := by decide +kernel
theorem d_J_flaws_35 : decode b_J_flaws 35 = .ok (.invokevirtual 113, 3) := by decide +kernel
theorem d_J_flaws_38 : decode b_J_flaws 38 = .ok (.ifCond .eq 7, 3) := by decide +kernel
theorem d_J_flaws_41 : decode b_J_flaws 41 = .ok (.iconst 2, 1) := by decide +kernel
theorem d_J_flaws_42 : decode b_J_flaws 42 = .ok (.goto 4, 3) := by decide +kernel
theorem d_J_flaws_45 : decode b_J_flaws 45 = .ok (.iconst 0, 1) := by decide +kernel
theorem d_J_flaws_46 : decode b_J_flaws 46 = .ok (.iadd, 1) := by decide +kernel
theorem d_J_flaws_47 : decode b_J_flaws 47 = .ok (.aload_n 0, 1) := by decide +kernel
theorem d_J_flaws_48 : decode b_J_flaws 48 = .ok (.getfield 10, 3) := by decide +kernel
theorem d_J_flaws_51 : decode b_J_flaws 51 = .ok (.invokevirtual 117, 3) := by decide +kernel
theorem d_J_flaws_54 : decode b_J_flaws 54 = .ok (.ifCond .eq 7, 3) := by decide +kernel
theorem d_J_flaws_57 : decode b_J_flaws 57 = .ok (.iconst 4, 1) := by decide +kernel
theorem d_J_flaws_58 : decode b_J_flaws 58 = .ok (.goto 4, 3) := by decide +kernel
theorem d_J_flaws_61 : decode b_J_flaws 61 = .ok (.iconst 0, 1) := by decide +kernel
theorem d_J_flaws_62 : decode b_J_flaws 62 = .ok (.iadd, 1) := by decide +kernel
theorem d_J_flaws_63 : decode b_J_flaws 63 = .ok (.aload_n 0, 1) := by decide +kernel
theorem d_J_flaws_64 : decode b_J_flaws 64 = .ok (.getfield 26, 3) := by decide +kernel
theorem d_J_flaws_67 : decode b_J_flaws 67 = .ok (.aload_n 0, 1) := by decide +kernel
theorem d_J_flaws_68 : decode b_J_flaws 68 = .ok (.getfield 19, 3) := by decide +kernel
theorem d_J_flaws_71 : decode b_J_flaws 71 = .ok (.iconst 1, 1) := by decide +kernel
theorem d_J_flaws_72 : decode b_J_flaws 72 = .ok (.invokevirtual 109, 3) := by decide +kernel
theorem d_J_flaws_75 : decode b_J_flaws 75 = .ok (.ifCond .eq 8, 3) := by decide +kernel
theorem d_J_flaws_78 : decode b_J_flaws 78 = .ok (.bipush 8, 2) := by decide +kernel
theorem d_J_flaws_80 : decode b_J_flaws 80 = .ok (.goto 4, 3) := by decide +kernel
theorem d_J_flaws_83 : decode b_J_flaws 83 = .ok (.iconst 0, 1) := by decide +kernel
theorem d_J_flaws_84 : decode b_J_flaws 84 = .ok (.iadd, 1) := by decide +kernel
theorem d_J_flaws_85 : decode b_J_flaws 85 = .ok (.aload_n 0, 1) := by decide +kernel
theorem d_J_flaws_86 : decode b_J_flaws 86 = .ok (.getfield 26, 3) := by decide +kernel
theorem d_J_flaws_89 : decode b_J_flaws 89 = .ok (.aload_n 0, 1) := by decide +kernel
theorem d_J_flaws_90 : decode b_J_flaws 90 = .ok (.getfield 19, 3) := by decide +kernel
theorem d_J_flaws_93 : decode b_J_flaws 93 = .ok (.iconst 2, 1) := by decide +kernel
theorem d_J_flaws_94 : decode b_J_flaws 94 = .ok (.invokevirtual 109, 3) := by decide +kernel
theorem d_J_flaws_97 : decode b_J_flaws 97 = .ok (.ifCond .eq 8, 3) := by decide +kernel
theorem d_J_flaws_100 : decode b_J_flaws 100 = .ok (.bipush 16, 2) := by decide +kernel
theorem d_J_flaws_102 : decode b_J_flaws 102 = .ok (.goto 4, 3) := by decide +kernel
theorem d_J_flaws_105 : decode b_J_flaws 105 = .ok (.iconst 0, 1) := by decide +kernel
theorem d_J_flaws_106 : decode b_J_flaws 106 = .ok (.iadd, 1) := by decide +kernel
theorem d_J_flaws_107 : decode b_J_flaws 107 = .ok (.aload_n 0, 1) := by decide +kernel
theorem d_J_flaws_108 : decode b_J_flaws 108 = .ok (.getfield 26, 3) := by decide +kernel
theorem d_J_flaws_111 : decode b_J_flaws 111 = .ok (.aload_n 0, 1) := by decide +kernel
theorem d_J_flaws_112 : decode b_J_flaws 112 = .ok (.getfield 19, 3) := by decide +kernel
theorem d_J_flaws_115 : decode b_J_flaws 115 = .ok (.iconst 3, 1) := by decide +kernel
theorem d_J_flaws_116 : decode b_J_flaws 116 = .ok (.invokevirtual 109, 3) := by decide +kernel
theorem d_J_flaws_119 : decode b_J_flaws 119 = .ok (.ifCond .eq 8, 3) := by decide +kernel
theorem d_J_flaws_122 : decode b_J_flaws 122 = .ok (.bipush 32, 2) := by decide +kernel
theorem d_J_flaws_124 : decode b_J_flaws 124 = .ok (.goto 4, 3) := by decide +kernel
theorem d_J_flaws_127 : decode b_J_flaws 127 = .ok (.iconst 0, 1) := by decide +kernel
theorem d_J_flaws_128 : decode b_J_flaws 128 = .ok (.iadd, 1) := by decide +kernel
theorem d_J_flaws_129 : decode b_J_flaws 129 = .ok (.ireturn, 1) := by decide +kernel
abbrev y_J_has : MethodName := ⟨"HistoryJudge", "has", "(II)Z"⟩
abbrev b_J_has : ByteArray := prog_1_method_20_code
theorem d_J_has_0 : decode b_J_has 0 = .ok (.iload_n 0, 1) := by decide +kernel
theorem d_J_has_1 : decode b_J_has 1 = .ok (.iload_n 1, 1) := by decide +kernel
theorem d_J_has_2 : decode b_J_has 2 = .ok (.invokestatic 151, 3) := by decide +kernel
theorem d_J_has_5 : decode b_J_has 5 = .ok (.iand, 1) := by decide +kernel
theorem d_J_has_6 : decode b_J_has 6 = .ok (.ifCond .eq 7, 3) := by decide +kernel
theorem d_J_has_9 : decode b_J_has 9 = .ok (.iconst 1, 1) := by decide +kernel
theorem d_J_has_10 : decode b_J_has 10 = .ok (.goto 4, 3) := by decide +kernel
theorem d_J_has_13 : decode b_J_has 13 = .ok (.iconst 0, 1) := by decide +kernel
theorem d_J_has_14 : decode b_J_has 14 = .ok (.ireturn, 1) := by decide +kernel
abbrev y_J_init : MethodName := ⟨"HistoryJudge", "<init>", "()V"⟩
abbrev b_J_init : ByteArray := prog_1_method_1_code
theorem d_J_init_0 : decode b_J_init 0 = .ok (.aload_n 0, 1) := by decide +kernel
theorem d_J_init_1 : decode b_J_init 1 = .ok (.invokespecial 1, 3) := by decide +kernel
theorem d_J_init_4 : decode b_J_init 4 = .ok (.aload_n 0, 1) := by decide +kernel
theorem d_J_init_5 : decode b_J_init 5 = .ok (.new 7, 3) := by decide +kernel
theorem d_J_init_8 : decode b_J_init 8 = .ok (.dup, 1) := by decide +kernel
theorem d_J_init_9 : decode b_J_init 9 = .ok (.invokespecial 9, 3) := by decide +kernel
theorem d_J_init_12 : decode b_J_init 12 = .ok (.putfield 10, 3) := by decide +kernel
theorem d_J_init_15 : decode b_J_init 15 = .ok (.aload_n 0, 1) := by decide +kernel
theorem d_J_init_16 : decode b_J_init 16 = .ok (.new 16, 3) := by decide +kernel
theorem d_J_init_19 : decode b_J_init 19 = .ok (.dup, 1) := by decide +kernel
theorem d_J_init_20 : decode b_J_init 20 = .ok (.invokespecial 18, 3) := by decide +kernel
theorem d_J_init_23 : decode b_J_init 23 = .ok (.putfield 19, 3) := by decide +kernel
theorem d_J_init_26 : decode b_J_init 26 = .ok (.aload_n 0, 1) := by decide +kernel
theorem d_J_init_27 : decode b_J_init 27 = .ok (.new 23, 3) := by decide +kernel
theorem d_J_init_30 : decode b_J_init 30 = .ok (.dup, 1) := by decide +kernel
theorem d_J_init_31 : decode b_J_init 31 = .ok (.invokespecial 25, 3) := by decide +kernel
theorem d_J_init_34 : decode b_J_init 34 = .ok (.putfield 26, 3) := by decide +kernel
theorem d_J_init_37 : decode b_J_init 37 = .ok (.aload_n 0, 1) := by decide +kernel
theorem d_J_init_38 : decode b_J_init 38 = .ok (.new 30, 3) := by decide +kernel
theorem d_J_init_41 : decode b_J_init 41 = .ok (.dup, 1) := by decide +kernel
theorem d_J_init_42 : decode b_J_init 42 = .ok (.invokespecial 32, 3) := by decide +kernel
theorem d_J_init_45 : decode b_J_init 45 = .ok (.putfield 33, 3) := by decide +kernel
theorem d_J_init_48 : decode b_J_init 48 = .ok (.return_, 1) := by decide +kernel
abbrev y_J_isItem : MethodName := ⟨"HistoryJudge", "isItem", "(I)Z"⟩
abbrev b_J_isItem : ByteArray := prog_1_method_18_code
theorem d_J_isItem_0 : decode b_J_isItem 0 = .ok (.iload_n 0, 1) := by decide +kernel
theorem d_J_isItem_1 : decode b_J_isItem 1 = .ok (.ifCond .lt 13, 3) := by decide +kernel
theorem d_J_isItem_4 : decode b_J_isItem 4 = .ok (.iload_n 0, 1) := by decide +kernel
theorem d_J_isItem_5 : decode b_J_isItem 5 = .ok (.bipush 6, 2) := by decide +kernel
theorem d_J_isItem_7 : decode b_J_isItem 7 = .ok (.if_icmp .ge 7, 3) := by decide +kernel
theorem d_J_isItem_10 : decode b_J_isItem 10 = .ok (.iconst 1, 1) := by decide +kernel
theorem d_J_isItem_11 : decode b_J_isItem 11 = .ok (.goto 4, 3) := by decide +kernel
theorem d_J_isItem_14 : decode b_J_isItem 14 = .ok (.iconst 0, 1) := by decide +kernel
theorem d_J_isItem_15 : decode b_J_isItem 15 = .ok (.ireturn, 1) := by decide +kernel
abbrev y_J_isTransaction : MethodName := ⟨"HistoryJudge", "isTransaction", "(I)Z"⟩
abbrev b_J_isTransaction : ByteArray := prog_1_method_17_code
theorem d_J_isTransaction_0 : decode b_J_isTransaction 0 = .ok (.iload_n 0, 1) := by decide +kernel
theorem d_J_isTransaction_1 : decode b_J_isTransaction 1 = .ok (.ifCond .lt 13, 3) := by decide +kernel
theorem d_J_isTransaction_4 : decode b_J_isTransaction 4 = .ok (.iload_n 0, 1) := by decide +kernel
theorem d_J_isTransaction_5 : decode b_J_isTransaction 5 = .ok (.bipush 8, 2) := by decide +kernel
theorem d_J_isTransaction_7 : decode b_J_isTransaction 7 = .ok (.if_icmp .ge 7, 3) := by decide +kernel
theorem d_J_isTransaction_10 : decode b_J_isTransaction 10 = .ok (.iconst 1, 1) := by decide +kernel
theorem d_J_isTransaction_11 : decode b_J_isTransaction 11 = .ok (.goto 4, 3) := by decide +kernel
theorem d_J_isTransaction_14 : decode b_J_isTransaction 14 = .ok (.iconst 0, 1) := by decide +kernel
theorem d_J_isTransaction_15 : decode b_J_isTransaction 15 = .ok (.ireturn, 1) := by decide +kernel
abbrev y_J_least : MethodName := ⟨"HistoryJudge", "least", "(I)I"⟩
abbrev b_J_least : ByteArray := prog_1_method_21_code
theorem d_J_least_0 : decode b_J_least 0 = .ok (.iconst 0, 1) := by decide +kernel
theorem d_J_least_1 : decode b_J_least 1 = .ok (.istore_n 1, 1) := by decide +kernel
theorem d_J_least_2 : decode b_J_least 2 = .ok (.iload_n 1, 1) := by decide +kernel
theorem d_J_least_3 : decode b_J_least 3 = .ok (.bipush 7, 2) := by decide +kernel
theorem d_J_least_5 : decode b_J_least 5 = .ok (.if_icmp .ge 17, 3) := by decide +kernel
theorem d_J_least_8 : decode b_J_least 8 = .ok (.iload_n 0, 1) := by decide +kernel
theorem d_J_least_9 : decode b_J_least 9 = .ok (.iload_n 1, 1) := by decide +kernel
theorem d_J_least_10 : decode b_J_least 10 = .ok (.invokestatic 100, 3) := by decide +kernel
theorem d_J_least_13 : decode b_J_least 13 = .ok (.ifCond .ne 9, 3) := by decide +kernel
theorem d_J_least_16 : decode b_J_least 16 = .ok (.iinc 1 1, 3) := by decide +kernel
theorem d_J_least_19 : decode b_J_least 19 = .ok (.goto (-17), 3) := by decide +kernel
theorem d_J_least_22 : decode b_J_least 22 = .ok (.iload_n 1, 1) := by decide +kernel
theorem d_J_least_23 : decode b_J_least 23 = .ok (.ireturn, 1) := by decide +kernel
abbrev y_J_level : MethodName := ⟨"HistoryJudge", "level", "()I"⟩
abbrev b_J_level : ByteArray := prog_1_method_10_code
theorem d_J_level_0 : decode b_J_level 0 = .ok (.aload_n 0, 1) := by decide +kernel
theorem d_J_level_1 : decode b_J_level 1 = .ok (.invokevirtual 120, 3) := by decide +kernel
theorem d_J_level_4 : decode b_J_level 4 = .ok (.istore_n 1, 1) := by decide +kernel
theorem d_J_level_5 : decode b_J_level 5 = .ok (.iload_n 1, 1) := by decide +kernel
theorem d_J_level_6 : decode b_J_level 6 = .ok (.iconst 1, 1) := by decide +kernel
theorem d_J_level_7 : decode b_J_level 7 = .ok (.iand, 1) := by decide +kernel
theorem d_J_level_8 : decode b_J_level 8 = .ok (.ifCond .eq 5, 3) := by decide +kernel
theorem d_J_level_11 : decode b_J_level 11 = .ok (.iconst 0, 1) := by decide +kernel
theorem d_J_level_12 : decode b_J_level 12 = .ok (.ireturn, 1) := by decide +kernel
theorem d_J_level_13 : decode b_J_level 13 = .ok (.iload_n 1, 1) := by decide +kernel
theorem d_J_level_14 : decode b_J_level 14 = .ok (.bipush 14, 2) := by decide +kernel
theorem d_J_level_16 : decode b_J_level 16 = .ok (.iand, 1) := by decide +kernel
theorem d_J_level_17 : decode b_J_level 17 = .ok (.ifCond .eq 5, 3) := by decide +kernel
theorem d_J_level_20 : decode b_J_level 20 = .ok (.iconst 1, 1) := by decide +kernel
theorem d_J_level_21 : decode b_J_level 21 = .ok (.ireturn, 1) := by decide +kernel
theorem d_J_level_22 : decode b_J_level 22 = .ok (.iload_n 1, 1) := by decide +kernel
theorem d_J_level_23 : decode b_J_level 23 = .ok (.bipush 16, 2) := by decide +kernel
theorem d_J_level_25 : decode b_J_level 25 = .ok (.iand, 1) := by decide +kernel
theorem d_J_level_26 : decode b_J_level 26 = .ok (.ifCond .eq 5, 3) := by decide +kernel
theorem d_J_level_29 : decode b_J_level 29 = .ok (.iconst 2, 1) := by decide +kernel
theorem d_J_level_30 : decode b_J_level 30 = .ok (.ireturn, 1) := by decide +kernel
theorem d_J_level_31 : decode b_J_level 31 = .ok (.iload_n 1, 1) := by decide +kernel
theorem d_J_level_32 : decode b_J_level 32 = .ok (.bipush 32, 2) := by decide +kernel
theorem d_J_level_34 : decode b_J_level 34 = .ok (.iand, 1) := by decide +kernel
theorem d_J_level_35 : decode b_J_level 35 = .ok (.ifCond .eq 7, 3) := by decide +kernel
theorem d_J_level_38 : decode b_J_level 38 = .ok (.iconst 3, 1) := by decide +kernel
theorem d_J_level_39 : decode b_J_level 39 = .ok (.goto 4, 3) := by decide +kernel
theorem d_J_level_42 : decode b_J_level 42 = .ok (.iconst 4, 1) := by decide +kernel
theorem d_J_level_43 : decode b_J_level 43 = .ok (.ireturn, 1) := by decide +kernel
abbrev y_J_only : MethodName := ⟨"HistoryJudge", "only", "(I)I"⟩
abbrev b_J_only : ByteArray := prog_1_method_19_code
theorem d_J_only_0 : decode b_J_only 0 = .ok (.iconst 1, 1) := by decide +kernel
theorem d_J_only_1 : decode b_J_only 1 = .ok (.iload_n 0, 1) := by decide +kernel
theorem d_J_only_2 : decode b_J_only 2 = .ok (.ishl, 1) := by decide +kernel
theorem d_J_only_3 : decode b_J_only 3 = .ok (.ireturn, 1) := by decide +kernel
abbrev y_J_place : MethodName := ⟨"HistoryJudge", "place", "(I)I"⟩
abbrev b_J_place : ByteArray := prog_1_method_14_code
theorem d_J_place_0 : decode b_J_place 0 = .ok (.aload_n 0, 1) := by decide +kernel
theorem d_J_place_1 : decode b_J_place 1 = .ok (.getfield 33, 3) := by decide +kernel
theorem d_J_place_4 : decode b_J_place 4 = .ok (.aload_n 0, 1) := by decide +kernel
theorem d_J_place_5 : decode b_J_place 5 = .ok (.getfield 10, 3) := by decide +kernel
theorem d_J_place_8 : decode b_J_place 8 = .ok (.invokevirtual 131, 3) := by decide +kernel
theorem d_J_place_11 : decode b_J_place 11 = .ok (.aload_n 0, 1) := by decide +kernel
theorem d_J_place_12 : decode b_J_place 12 = .ok (.getfield 33, 3) := by decide +kernel
theorem d_J_place_15 : decode b_J_place 15 = .ok (.iload_n 1, 1) := by decide +kernel
theorem d_J_place_16 : decode b_J_place 16 = .ok (.invokevirtual 137, 3) := by decide +kernel
theorem d_J_place_19 : decode b_J_place 19 = .ok (.ireturn, 1) := by decide +kernel
abbrev y_J_read : MethodName := ⟨"HistoryJudge", "read", "(III)I"⟩
abbrev b_J_read : ByteArray := prog_1_method_3_code
theorem d_J_read_0 : decode b_J_read 0 = .ok (.iload_n 1, 1) := by decide +kernel
theorem d_J_read_1 : decode b_J_read 1 = .ok (.invokestatic 37, 3) := by decide +kernel
theorem d_J_read_4 : decode b_J_read 4 = .ok (.ifCond .eq 10, 3) := by decide +kernel
theorem d_J_read_7 : decode b_J_read 7 = .ok (.iload_n 2, 1) := by decide +kernel
theorem d_J_read_8 : decode b_J_read 8 = .ok (.invokestatic 41, 3) := by decide +kernel
theorem d_J_read_11 : decode b_J_read 11 = .ok (.ifCond .ne 11, 3) := by decide +kernel
theorem d_J_read_14 : decode b_J_read 14 = .ok (.new 44, 3) := by decide +kernel
theorem d_J_read_17 : decode b_J_read 17 = .ok (.dup, 1) := by decide +kernel
theorem d_J_read_18 : decode b_J_read 18 = .ok (.invokespecial 46, 3) := by decide +kernel
theorem d_J_read_21 : decode b_J_read 21 = .ok (.athrow, 1) := by decide +kernel
theorem d_J_read_22 : decode b_J_read 22 = .ok (.aload_n 0, 1) := by decide +kernel
theorem d_J_read_23 : decode b_J_read 23 = .ok (.getfield 10, 3) := by decide +kernel
theorem d_J_read_26 : decode b_J_read 26 = .ok (.iload_n 2, 1) := by decide +kernel
theorem d_J_read_27 : decode b_J_read 27 = .ok (.iload_n 3, 1) := by decide +kernel
theorem d_J_read_28 : decode b_J_read 28 = .ok (.invokevirtual 64, 3) := by decide +kernel
theorem d_J_read_31 : decode b_J_read 31 = .ok (.ifCond .ne 11, 3) := by decide +kernel
theorem d_J_read_34 : decode b_J_read 34 = .ok (.new 68, 3) := by decide +kernel
theorem d_J_read_37 : decode b_J_read 37 = .ok (.dup, 1) := by decide +kernel
theorem d_J_read_38 : decode b_J_read 38 = .ok (.invokespecial 70, 3) := by decide +kernel
theorem d_J_read_41 : decode b_J_read 41 = .ok (.athrow, 1) := by decide +kernel
theorem d_J_read_42 : decode b_J_read 42 = .ok (.aload_n 0, 1) := by decide +kernel
theorem d_J_read_43 : decode b_J_read 43 = .ok (.getfield 10, 3) := by decide +kernel
theorem d_J_read_46 : decode b_J_read 46 = .ok (.iload_n 1, 1) := by decide +kernel
theorem d_J_read_47 : decode b_J_read 47 = .ok (.invokevirtual 47, 3) := by decide +kernel
theorem d_J_read_50 : decode b_J_read 50 = .ok (.ifCond .eq 11, 3) := by decide +kernel
theorem d_J_read_53 : decode b_J_read 53 = .ok (.new 50, 3) := by decide +kernel
theorem d_J_read_56 : decode b_J_read 56 = .ok (.dup, 1) := by decide +kernel
theorem d_J_read_57 : decode b_J_read 57 = .ok (.invokespecial 52, 3) := by decide +kernel
theorem d_J_read_60 : decode b_J_read 60 = .ok (.athrow, 1) := by decide +kernel
theorem d_J_read_61 : decode b_J_read 61 = .ok (.aload_n 0, 1) := by decide +kernel
theorem d_J_read_62 : decode b_J_read 62 = .ok (.getfield 10, 3) := by decide +kernel
theorem d_J_read_65 : decode b_J_read 65 = .ok (.getfield 71, 3) := by decide +kernel
theorem d_J_read_68 : decode b_J_read 68 = .ok (.bipush 60, 2) := by decide +kernel
theorem d_J_read_70 : decode b_J_read 70 = .ok (.if_icmp .lt 11, 3) := by decide +kernel
theorem d_J_read_73 : decode b_J_read 73 = .ok (.new 57, 3) := by decide +kernel
theorem d_J_read_76 : decode b_J_read 76 = .ok (.dup, 1) := by decide +kernel
theorem d_J_read_77 : decode b_J_read 77 = .ok (.invokespecial 59, 3) := by decide +kernel
theorem d_J_read_80 : decode b_J_read 80 = .ok (.athrow, 1) := by decide +kernel
theorem d_J_read_81 : decode b_J_read 81 = .ok (.aload_n 0, 1) := by decide +kernel
theorem d_J_read_82 : decode b_J_read 82 = .ok (.getfield 10, 3) := by decide +kernel
theorem d_J_read_85 : decode b_J_read 85 = .ok (.iload_n 1, 1) := by decide +kernel
theorem d_J_read_86 : decode b_J_read 86 = .ok (.iload_n 2, 1) := by decide +kernel
theorem d_J_read_87 : decode b_J_read 87 = .ok (.iload_n 3, 1) := by decide +kernel
theorem d_J_read_88 : decode b_J_read 88 = .ok (.invokevirtual 74, 3) := by decide +kernel
theorem d_J_read_91 : decode b_J_read 91 = .ok (.ireturn, 1) := by decide +kernel
abbrev y_J_serial : MethodName := ⟨"HistoryJudge", "serial", "()Z"⟩
abbrev b_J_serial : ByteArray := prog_1_method_13_code
theorem d_J_serial_0 : decode b_J_serial 0 = .ok (.aload_n 0, 1) := by decide +kernel
theorem d_J_serial_1 : decode b_J_serial 1 = .ok (.getfield 33, 3) := by decide +kernel
theorem d_J_serial_4 : decode b_J_serial 4 = .ok (.aload_n 0, 1) := by decide +kernel
theorem d_J_serial_5 : decode b_J_serial 5 = .ok (.getfield 10, 3) := by decide +kernel
theorem d_J_serial_8 : decode b_J_serial 8 = .ok (.invokevirtual 131, 3) := by decide +kernel
theorem d_J_serial_11 : decode b_J_serial 11 = .ok (.aload_n 0, 1) := by decide +kernel
theorem d_J_serial_12 : decode b_J_serial 12 = .ok (.getfield 33, 3) := by decide +kernel
theorem d_J_serial_15 : decode b_J_serial 15 = .ok (.invokevirtual 134, 3) := by decide +kernel
theorem d_J_serial_18 : decode b_J_serial 18 = .ok (.ireturn, 1) := by decide +kernel
abbrev y_J_state : MethodName := ⟨"HistoryJudge", "state", "(I)I"⟩
abbrev b_J_state : ByteArray := prog_1_method_5_code
theorem d_J_state_0 : decode b_J_state 0 = .ok (.iload_n 1, 1) := by decide +kernel
theorem d_J_state_1 : decode b_J_state 1 = .ok (.invokestatic 37, 3) := by decide +kernel
theorem d_J_state_4 : decode b_J_state 4 = .ok (.ifCond .eq 15, 3) := by decide +kernel
theorem d_J_state_7 : decode b_J_state 7 = .ok (.aload_n 0, 1) := by decide +kernel
theorem d_J_state_8 : decode b_J_state 8 = .ok (.getfield 10, 3) := by decide +kernel
theorem d_J_state_11 : decode b_J_state 11 = .ok (.getfield 78, 3) := by decide +kernel
theorem d_J_state_14 : decode b_J_state 14 = .ok (.iload_n 1, 1) := by decide +kernel
theorem d_J_state_15 : decode b_J_state 15 = .ok (.iaload, 1) := by decide +kernel
theorem d_J_state_16 : decode b_J_state 16 = .ok (.goto 4, 3) := by decide +kernel
theorem d_J_state_19 : decode b_J_state 19 = .ok (.iconst (-1), 1) := by decide +kernel
theorem d_J_state_20 : decode b_J_state 20 = .ok (.ireturn, 1) := by decide +kernel
abbrev y_J_step : MethodName := ⟨"HistoryJudge", "step", "(II)I"⟩
abbrev b_J_step : ByteArray := prog_1_method_12_code
theorem d_J_step_0 : decode b_J_step 0 = .ok (.aload_n 0, 1) := by decide +kernel
theorem d_J_step_1 : decode b_J_step 1 = .ok (.iload_n 1, 1) := by decide +kernel
theorem d_J_step_2 : decode b_J_step 2 = .ok (.invokevirtual 124, 3) := by decide +kernel
theorem d_J_step_5 : decode b_J_step 5 = .ok (.istore_n 3, 1) := by decide +kernel
theorem d_J_step_6 : decode b_J_step 6 = .ok (.iload_n 2, 1) := by decide +kernel
theorem d_J_step_7 : decode b_J_step 7 = .ok (.ifCond .lt 20, 3) := by decide +kernel
theorem d_J_step_10 : decode b_J_step 10 = .ok (.iload_n 2, 1) := by decide +kernel
theorem d_J_step_11 : decode b_J_step 11 = .ok (.iload_n 3, 1) := by decide +kernel
theorem d_J_step_12 : decode b_J_step 12 = .ok (.if_icmp .ge 15, 3) := by decide +kernel
theorem d_J_step_15 : decode b_J_step 15 = .ok (.aload_n 0, 1) := by decide +kernel
theorem d_J_step_16 : decode b_J_step 16 = .ok (.getfield 26, 3) := by decide +kernel
theorem d_J_step_19 : decode b_J_step 19 = .ok (.getfield 128, 3) := by decide +kernel
theorem d_J_step_22 : decode b_J_step 22 = .ok (.iload_n 2, 1) := by decide +kernel
theorem d_J_step_23 : decode b_J_step 23 = .ok (.iaload, 1) := by decide +kernel
theorem d_J_step_24 : decode b_J_step 24 = .ok (.goto 4, 3) := by decide +kernel
theorem d_J_step_27 : decode b_J_step 27 = .ok (.iconst (-1), 1) := by decide +kernel
theorem d_J_step_28 : decode b_J_step 28 = .ok (.ireturn, 1) := by decide +kernel
abbrev y_J_version : MethodName := ⟨"HistoryJudge", "version", "(II)I"⟩
abbrev b_J_version : ByteArray := prog_1_method_6_code
theorem d_J_version_0 : decode b_J_version 0 = .ok (.iload_n 1, 1) := by decide +kernel
theorem d_J_version_1 : decode b_J_version 1 = .ok (.invokestatic 41, 3) := by decide +kernel
theorem d_J_version_4 : decode b_J_version 4 = .ok (.ifCond .eq 20, 3) := by decide +kernel
theorem d_J_version_7 : decode b_J_version 7 = .ok (.iload_n 2, 1) := by decide +kernel
theorem d_J_version_8 : decode b_J_version 8 = .ok (.ifCond .lt 16, 3) := by decide +kernel
theorem d_J_version_11 : decode b_J_version 11 = .ok (.iload_n 2, 1) := by decide +kernel
theorem d_J_version_12 : decode b_J_version 12 = .ok (.aload_n 0, 1) := by decide +kernel
theorem d_J_version_13 : decode b_J_version 13 = .ok (.getfield 10, 3) := by decide +kernel
theorem d_J_version_16 : decode b_J_version 16 = .ok (.getfield 86, 3) := by decide +kernel
theorem d_J_version_19 : decode b_J_version 19 = .ok (.iload_n 1, 1) := by decide +kernel
theorem d_J_version_20 : decode b_J_version 20 = .ok (.iaload, 1) := by decide +kernel
theorem d_J_version_21 : decode b_J_version 21 = .ok (.if_icmp .lt 5, 3) := by decide +kernel
theorem d_J_version_24 : decode b_J_version 24 = .ok (.iconst (-1), 1) := by decide +kernel
theorem d_J_version_25 : decode b_J_version 25 = .ok (.ireturn, 1) := by decide +kernel
theorem d_J_version_26 : decode b_J_version 26 = .ok (.aload_n 0, 1) := by decide +kernel
theorem d_J_version_27 : decode b_J_version 27 = .ok (.getfield 10, 3) := by decide +kernel
theorem d_J_version_30 : decode b_J_version 30 = .ok (.getfield 89, 3) := by decide +kernel
theorem d_J_version_33 : decode b_J_version 33 = .ok (.iload_n 1, 1) := by decide +kernel
theorem d_J_version_34 : decode b_J_version 34 = .ok (.aaload, 1) := by decide +kernel
theorem d_J_version_35 : decode b_J_version 35 = .ok (.iload_n 2, 1) := by decide +kernel
theorem d_J_version_36 : decode b_J_version 36 = .ok (.iaload, 1) := by decide +kernel
theorem d_J_version_37 : decode b_J_version 37 = .ok (.ireturn, 1) := by decide +kernel
abbrev y_J_write : MethodName := ⟨"HistoryJudge", "write", "(II)I"⟩
abbrev b_J_write : ByteArray := prog_1_method_2_code
theorem d_J_write_0 : decode b_J_write 0 = .ok (.iload_n 1, 1) := by decide +kernel
theorem d_J_write_1 : decode b_J_write 1 = .ok (.invokestatic 37, 3) := by decide +kernel
theorem d_J_write_4 : decode b_J_write 4 = .ok (.ifCond .eq 10, 3) := by decide +kernel
theorem d_J_write_7 : decode b_J_write 7 = .ok (.iload_n 2, 1) := by decide +kernel
theorem d_J_write_8 : decode b_J_write 8 = .ok (.invokestatic 41, 3) := by decide +kernel
theorem d_J_write_11 : decode b_J_write 11 = .ok (.ifCond .ne 11, 3) := by decide +kernel
theorem d_J_write_14 : decode b_J_write 14 = .ok (.new 44, 3) := by decide +kernel
theorem d_J_write_17 : decode b_J_write 17 = .ok (.dup, 1) := by decide +kernel
theorem d_J_write_18 : decode b_J_write 18 = .ok (.invokespecial 46, 3) := by decide +kernel
theorem d_J_write_21 : decode b_J_write 21 = .ok (.athrow, 1) := by decide +kernel
theorem d_J_write_22 : decode b_J_write 22 = .ok (.aload_n 0, 1) := by decide +kernel
theorem d_J_write_23 : decode b_J_write 23 = .ok (.getfield 10, 3) := by decide +kernel
theorem d_J_write_26 : decode b_J_write 26 = .ok (.iload_n 1, 1) := by decide +kernel
theorem d_J_write_27 : decode b_J_write 27 = .ok (.invokevirtual 47, 3) := by decide +kernel
theorem d_J_write_30 : decode b_J_write 30 = .ok (.ifCond .eq 11, 3) := by decide +kernel
theorem d_J_write_33 : decode b_J_write 33 = .ok (.new 50, 3) := by decide +kernel
theorem d_J_write_36 : decode b_J_write 36 = .ok (.dup, 1) := by decide +kernel
theorem d_J_write_37 : decode b_J_write 37 = .ok (.invokespecial 52, 3) := by decide +kernel
theorem d_J_write_40 : decode b_J_write 40 = .ok (.athrow, 1) := by decide +kernel
theorem d_J_write_41 : decode b_J_write 41 = .ok (.aload_n 0, 1) := by decide +kernel
theorem d_J_write_42 : decode b_J_write 42 = .ok (.getfield 10, 3) := by decide +kernel
theorem d_J_write_45 : decode b_J_write 45 = .ok (.getfield 53, 3) := by decide +kernel
theorem d_J_write_48 : decode b_J_write 48 = .ok (.bipush 40, 2) := by decide +kernel
theorem d_J_write_50 : decode b_J_write 50 = .ok (.if_icmp .lt 11, 3) := by decide +kernel
theorem d_J_write_53 : decode b_J_write 53 = .ok (.new 57, 3) := by decide +kernel
theorem d_J_write_56 : decode b_J_write 56 = .ok (.dup, 1) := by decide +kernel
theorem d_J_write_57 : decode b_J_write 57 = .ok (.invokespecial 59, 3) := by decide +kernel
theorem d_J_write_60 : decode b_J_write 60 = .ok (.athrow, 1) := by decide +kernel
theorem d_J_write_61 : decode b_J_write 61 = .ok (.aload_n 0, 1) := by decide +kernel
theorem d_J_write_62 : decode b_J_write 62 = .ok (.getfield 10, 3) := by decide +kernel
theorem d_J_write_65 : decode b_J_write 65 = .ok (.iload_n 1, 1) := by decide +kernel
theorem d_J_write_66 : decode b_J_write 66 = .ok (.iload_n 2, 1) := by decide +kernel
theorem d_J_write_67 : decode b_J_write 67 = .ok (.invokevirtual 60, 3) := by decide +kernel
theorem d_J_write_70 : decode b_J_write 70 = .ok (.ireturn, 1) := by decide +kernel
abbrev y_L_end : MethodName := ⟨"HistoryJudgeLaw", "end", "(LHistoryJudge;IZ)I"⟩
abbrev b_L_end : ByteArray := method_5_code
theorem d_L_end_0 : decode b_L_end 0 = .ok (.aload_n 0, 1) := by decide +kernel
theorem d_L_end_1 : decode b_L_end 1 = .ok (.iload_n 1, 1) := by decide +kernel
theorem d_L_end_2 : decode b_L_end 2 = .ok (.iload_n 2, 1) := by decide +kernel
theorem d_L_end_3 : decode b_L_end 3 = .ok (.invokevirtual 25, 3) := by decide +kernel
theorem d_L_end_6 : decode b_L_end 6 = .ok (.goto 9, 3) := by decide +kernel
theorem d_L_end_9 : decode b_L_end 9 = .ok (.astore_n 3, 1) := by decide +kernel
theorem d_L_end_10 : decode b_L_end 10 = .ok (.iconst 1, 1) := by decide +kernel
theorem d_L_end_11 : decode b_L_end 11 = .ok (.ireturn, 1) := by decide +kernel
theorem d_L_end_12 : decode b_L_end 12 = .ok (.astore_n 3, 1) := by decide +kernel
theorem d_L_end_13 : decode b_L_end 13 = .ok (.iconst 2, 1) := by decide +kernel
theorem d_L_end_14 : decode b_L_end 14 = .ok (.ireturn, 1) := by decide +kernel
theorem d_L_end_15 : decode b_L_end 15 = .ok (.iconst 0, 1) := by decide +kernel
theorem d_L_end_16 : decode b_L_end 16 = .ok (.ireturn, 1) := by decide +kernel
abbrev y_L_read : MethodName := ⟨"HistoryJudgeLaw", "read", "(LHistoryJudge;III[J)I"⟩
abbrev b_L_read : ByteArray := method_4_code
theorem d_L_read_0 : decode b_L_read 0 = .ok (.aload 4, 2) := by decide +kernel
theorem d_L_read_2 : decode b_L_read 2 = .ok (.iconst 0, 1) := by decide +kernel
theorem d_L_read_3 : decode b_L_read 3 = .ok (.aload_n 0, 1) := by decide +kernel
theorem d_L_read_4 : decode b_L_read 4 = .ok (.iload_n 1, 1) := by decide +kernel
theorem d_L_read_5 : decode b_L_read 5 = .ok (.iload_n 2, 1) := by decide +kernel
theorem d_L_read_6 : decode b_L_read 6 = .ok (.iload_n 3, 1) := by decide +kernel
theorem d_L_read_7 : decode b_L_read 7 = .ok (.invokevirtual 19, 3) := by decide +kernel
theorem d_L_read_10 : decode b_L_read 10 = .ok (.i2l, 1) := by decide +kernel
theorem d_L_read_11 : decode b_L_read 11 = .ok (.lastore, 1) := by decide +kernel
theorem d_L_read_12 : decode b_L_read 12 = .ok (.goto 19, 3) := by decide +kernel
theorem d_L_read_15 : decode b_L_read 15 = .ok (.astore 5, 2) := by decide +kernel
theorem d_L_read_17 : decode b_L_read 17 = .ok (.iconst 1, 1) := by decide +kernel
theorem d_L_read_18 : decode b_L_read 18 = .ok (.ireturn, 1) := by decide +kernel
theorem d_L_read_19 : decode b_L_read 19 = .ok (.astore 5, 2) := by decide +kernel
theorem d_L_read_21 : decode b_L_read 21 = .ok (.iconst 2, 1) := by decide +kernel
theorem d_L_read_22 : decode b_L_read 22 = .ok (.ireturn, 1) := by decide +kernel
theorem d_L_read_23 : decode b_L_read 23 = .ok (.astore 5, 2) := by decide +kernel
theorem d_L_read_25 : decode b_L_read 25 = .ok (.iconst 3, 1) := by decide +kernel
theorem d_L_read_26 : decode b_L_read 26 = .ok (.ireturn, 1) := by decide +kernel
theorem d_L_read_27 : decode b_L_read 27 = .ok (.astore 5, 2) := by decide +kernel
theorem d_L_read_29 : decode b_L_read 29 = .ok (.iconst 4, 1) := by decide +kernel
theorem d_L_read_30 : decode b_L_read 30 = .ok (.ireturn, 1) := by decide +kernel
theorem d_L_read_31 : decode b_L_read 31 = .ok (.iconst 0, 1) := by decide +kernel
theorem d_L_read_32 : decode b_L_read 32 = .ok (.ireturn, 1) := by decide +kernel
abbrev y_L_write : MethodName := ⟨"HistoryJudgeLaw", "write", "(LHistoryJudge;II[J)I"⟩
abbrev b_L_write : ByteArray := method_3_code
theorem d_L_write_0 : decode b_L_write 0 = .ok (.aload_n 3, 1) := by decide +kernel
theorem d_L_write_1 : decode b_L_write 1 = .ok (.iconst 0, 1) := by decide +kernel
theorem d_L_write_2 : decode b_L_write 2 = .ok (.aload_n 0, 1) := by decide +kernel
theorem d_L_write_3 : decode b_L_write 3 = .ok (.iload_n 1, 1) := by decide +kernel
theorem d_L_write_4 : decode b_L_write 4 = .ok (.iload_n 2, 1) := by decide +kernel
theorem d_L_write_5 : decode b_L_write 5 = .ok (.invokevirtual 7, 3) := by decide +kernel
theorem d_L_write_8 : decode b_L_write 8 = .ok (.i2l, 1) := by decide +kernel
theorem d_L_write_9 : decode b_L_write 9 = .ok (.lastore, 1) := by decide +kernel
theorem d_L_write_10 : decode b_L_write 10 = .ok (.goto 15, 3) := by decide +kernel
theorem d_L_write_13 : decode b_L_write 13 = .ok (.astore 4, 2) := by decide +kernel
theorem d_L_write_15 : decode b_L_write 15 = .ok (.iconst 1, 1) := by decide +kernel
theorem d_L_write_16 : decode b_L_write 16 = .ok (.ireturn, 1) := by decide +kernel
theorem d_L_write_17 : decode b_L_write 17 = .ok (.astore 4, 2) := by decide +kernel
theorem d_L_write_19 : decode b_L_write 19 = .ok (.iconst 2, 1) := by decide +kernel
theorem d_L_write_20 : decode b_L_write 20 = .ok (.ireturn, 1) := by decide +kernel
theorem d_L_write_21 : decode b_L_write 21 = .ok (.astore 4, 2) := by decide +kernel
theorem d_L_write_23 : decode b_L_write 23 = .ok (.iconst 3, 1) := by decide +kernel
theorem d_L_write_24 : decode b_L_write 24 = .ok (.ireturn, 1) := by decide +kernel
theorem d_L_write_25 : decode b_L_write 25 = .ok (.iconst 0, 1) := by decide +kernel
theorem d_L_write_26 : decode b_L_write 26 = .ok (.ireturn, 1) := by decide +kernel
abbrev y_M_allFlaws : MethodName := ⟨"HistoryJudgeModel", "allFlaws", "()I"⟩
abbrev b_M_allFlaws : ByteArray := prog_7_method_32_code
theorem d_M_allFlaws_0 : decode b_M_allFlaws 0 = .ok (.aload_n 0, 1) := by decide +kernel
theorem d_M_allFlaws_1 : decode b_M_allFlaws 1 = .ok (.iconst 0, 1) := by decide +kernel
theorem d_M_allFlaws_2 : decode b_M_allFlaws 2 = .ok (.invokevirtual 120, 3) := by decide +kernel
theorem d_M_allFlaws_5 : decode b_M_allFlaws 5 = .ok (.istore_n 1, 1) := by decide +kernel
theorem d_M_allFlaws_6 : decode b_M_allFlaws 6 = .ok (.aload_n 0, 1) := by decide +kernel
theorem d_M_allFlaws_7 : decode b_M_allFlaws 7 = .ok (.iconst 1, 1) := by decide +kernel
theorem d_M_allFlaws_8 : decode b_M_allFlaws 8 = .ok (.invokevirtual 120, 3) := by decide +kernel
theorem d_M_allFlaws_11 : decode b_M_allFlaws 11 = .ok (.istore_n 2, 1) := by decide +kernel
theorem d_M_allFlaws_12 : decode b_M_allFlaws 12 = .ok (.aload_n 0, 1) := by decide +kernel
theorem d_M_allFlaws_13 : decode b_M_allFlaws 13 = .ok (.iconst 2, 1) := by decide +kernel
theorem d_M_allFlaws_14 : decode b_M_allFlaws 14 = .ok (.invokevirtual 120, 3) := by decide +kernel
theorem d_M_allFlaws_17 : decode b_M_allFlaws 17 = .ok (.istore_n 3, 1) := by decide +kernel
theorem d_M_allFlaws_18 : decode b_M_allFlaws 18 = .ok (.aload_n 0, 1) := by decide +kernel
theorem d_M_allFlaws_19 : decode b_M_allFlaws 19 = .ok (.iconst 3, 1) := by decide +kernel
theorem d_M_allFlaws_20 : decode b_M_allFlaws 20 = .ok (.invokevirtual 120, 3) := by decide +kernel
theorem d_M_allFlaws_23 : decode b_M_allFlaws 23 = .ok (.istore 4, 2) := by decide +kernel
theorem d_M_allFlaws_25 : decode b_M_allFlaws 25 = .ok (.aload_n 0, 1) := by decide +kernel
theorem d_M_allFlaws_26 : decode b_M_allFlaws 26 = .ok (.invokevirtual 123, 3) := by decide +kernel
theorem d_M_allFlaws_29 : decode b_M_allFlaws 29 = .ok (.iload_n 1, 1) := by decide +kernel
theorem d_M_allFlaws_30 : decode b_M_allFlaws 30 = .ok (.ifCond .le 7, 3) := by decide +kernel
theorem d_M_allFlaws_33 : decode b_M_allFlaws 33 = .ok (.iconst 1, 1) := by decide +kernel
theorem d_M_allFlaws_34 : decode b_M_allFlaws 34 = .ok (.goto 4, 3) := by decide +kernel
theorem d_M_allFlaws_37 : decode b_M_allFlaws 37 = .ok (.iconst 0, 1) := by decide +kernel
theorem d_M_allFlaws_38 : decode b_M_allFlaws 38 = .ok (.iadd, 1) := by decide +kernel
theorem d_M_allFlaws_39 : decode b_M_allFlaws 39 = .ok (.iload_n 2, 1) := by decide +kernel
theorem d_M_allFlaws_40 : decode b_M_allFlaws 40 = .ok (.ifCond .le 8, 3) := by decide +kernel
theorem d_M_allFlaws_43 : decode b_M_allFlaws 43 = .ok (.bipush 8, 2) := by decide +kernel
theorem d_M_allFlaws_45 : decode b_M_allFlaws 45 = .ok (.goto 4, 3) := by decide +kernel
theorem d_M_allFlaws_48 : decode b_M_allFlaws 48 = .ok (.iconst 0, 1) := by decide +kernel
theorem d_M_allFlaws_49 : decode b_M_allFlaws 49 = .ok (.iadd, 1) := by decide +kernel
theorem d_M_allFlaws_50 : decode b_M_allFlaws 50 = .ok (.iload_n 3, 1) := by decide +kernel
theorem d_M_allFlaws_51 : decode b_M_allFlaws 51 = .ok (.ifCond .le 8, 3) := by decide +kernel
theorem d_M_allFlaws_54 : decode b_M_allFlaws 54 = .ok (.bipush 16, 2) := by decide +kernel
theorem d_M_allFlaws_56 : decode b_M_allFlaws 56 = .ok (.goto 4, 3) := by decide +kernel
theorem d_M_allFlaws_59 : decode b_M_allFlaws 59 = .ok (.iconst 0, 1) := by decide +kernel
theorem d_M_allFlaws_60 : decode b_M_allFlaws 60 = .ok (.iadd, 1) := by decide +kernel
theorem d_M_allFlaws_61 : decode b_M_allFlaws 61 = .ok (.iload 4, 2) := by decide +kernel
theorem d_M_allFlaws_63 : decode b_M_allFlaws 63 = .ok (.ifCond .le 8, 3) := by decide +kernel
theorem d_M_allFlaws_66 : decode b_M_allFlaws 66 = .ok (.bipush 32, 2) := by decide +kernel
theorem d_M_allFlaws_68 : decode b_M_allFlaws 68 = .ok (.goto 4, 3) := by decide +kernel
theorem d_M_allFlaws_71 : decode b_M_allFlaws 71 = .ok (.iconst 0, 1) := by decide +kernel
theorem d_M_allFlaws_72 : decode b_M_allFlaws 72 = .ok (.iadd, 1) := by decide +kernel
theorem d_M_allFlaws_73 : decode b_M_allFlaws 73 = .ok (.ireturn, 1) := by decide +kernel
abbrev y_M_beginnings : MethodName := ⟨"HistoryJudgeModel", "beginnings", "()I"⟩
abbrev b_M_beginnings : ByteArray := prog_7_method_40_code
theorem d_M_beginnings_0 : decode b_M_beginnings 0 = .ok (.aload_n 0, 1) := by decide +kernel
theorem d_M_beginnings_1 : decode b_M_beginnings 1 = .ok (.iconst 0, 1) := by decide +kernel
theorem d_M_beginnings_2 : decode b_M_beginnings 2 = .ok (.putfield 50, 3) := by decide +kernel
theorem d_M_beginnings_5 : decode b_M_beginnings 5 = .ok (.iconst 0, 1) := by decide +kernel
theorem d_M_beginnings_6 : decode b_M_beginnings 6 = .ok (.istore_n 1, 1) := by decide +kernel
theorem d_M_beginnings_7 : decode b_M_beginnings 7 = .ok (.iconst 0, 1) := by decide +kernel
theorem d_M_beginnings_8 : decode b_M_beginnings 8 = .ok (.istore_n 2, 1) := by decide +kernel
theorem d_M_beginnings_9 : decode b_M_beginnings 9 = .ok (.iload_n 2, 1) := by decide +kernel
theorem d_M_beginnings_10 : decode b_M_beginnings 10 = .ok (.bipush 8, 2) := by decide +kernel
theorem d_M_beginnings_12 : decode b_M_beginnings 12 = .ok (.if_icmp .ge 34, 3) := by decide +kernel
theorem d_M_beginnings_15 : decode b_M_beginnings 15 = .ok (.aload_n 0, 1) := by decide +kernel
theorem d_M_beginnings_16 : decode b_M_beginnings 16 = .ok (.iload_n 2, 1) := by decide +kernel
theorem d_M_beginnings_17 : decode b_M_beginnings 17 = .ok (.invokevirtual 85, 3) := by decide +kernel
theorem d_M_beginnings_20 : decode b_M_beginnings 20 = .ok (.ifCond .eq 18, 3) := by decide +kernel
theorem d_M_beginnings_23 : decode b_M_beginnings 23 = .ok (.aload_n 0, 1) := by decide +kernel
theorem d_M_beginnings_24 : decode b_M_beginnings 24 = .ok (.iload_n 2, 1) := by decide +kernel
theorem d_M_beginnings_25 : decode b_M_beginnings 25 = .ok (.iload_n 2, 1) := by decide +kernel
theorem d_M_beginnings_26 : decode b_M_beginnings 26 = .ok (.invokevirtual 139, 3) := by decide +kernel
theorem d_M_beginnings_29 : decode b_M_beginnings 29 = .ok (.ifCond .eq 9, 3) := by decide +kernel
theorem d_M_beginnings_32 : decode b_M_beginnings 32 = .ok (.iload_n 1, 1) := by decide +kernel
theorem d_M_beginnings_33 : decode b_M_beginnings 33 = .ok (.iconst 1, 1) := by decide +kernel
theorem d_M_beginnings_34 : decode b_M_beginnings 34 = .ok (.iadd, 1) := by decide +kernel
theorem d_M_beginnings_35 : decode b_M_beginnings 35 = .ok (.goto 4, 3) := by decide +kernel
theorem d_M_beginnings_38 : decode b_M_beginnings 38 = .ok (.iload_n 1, 1) := by decide +kernel
theorem d_M_beginnings_39 : decode b_M_beginnings 39 = .ok (.istore_n 1, 1) := by decide +kernel
theorem d_M_beginnings_40 : decode b_M_beginnings 40 = .ok (.iinc 2 1, 3) := by decide +kernel
theorem d_M_beginnings_43 : decode b_M_beginnings 43 = .ok (.goto (-34), 3) := by decide +kernel
theorem d_M_beginnings_46 : decode b_M_beginnings 46 = .ok (.iload_n 1, 1) := by decide +kernel
theorem d_M_beginnings_47 : decode b_M_beginnings 47 = .ok (.ireturn, 1) := by decide +kernel
abbrev y_M_clear : MethodName := ⟨"HistoryJudgeModel", "clear", "()I"⟩
abbrev b_M_clear : ByteArray := prog_7_method_14_code
theorem d_M_clear_0 : decode b_M_clear 0 = .ok (.aload_n 0, 1) := by decide +kernel
theorem d_M_clear_1 : decode b_M_clear 1 = .ok (.iconst 0, 1) := by decide +kernel
theorem d_M_clear_2 : decode b_M_clear 2 = .ok (.putfield 50, 3) := by decide +kernel
theorem d_M_clear_5 : decode b_M_clear 5 = .ok (.aload_n 0, 1) := by decide +kernel
theorem d_M_clear_6 : decode b_M_clear 6 = .ok (.getfield 64, 3) := by decide +kernel
theorem d_M_clear_9 : decode b_M_clear 9 = .ok (.istore_n 1, 1) := by decide +kernel
theorem d_M_clear_10 : decode b_M_clear 10 = .ok (.aload_n 0, 1) := by decide +kernel
theorem d_M_clear_11 : decode b_M_clear 11 = .ok (.iconst 0, 1) := by decide +kernel
theorem d_M_clear_12 : decode b_M_clear 12 = .ok (.putfield 64, 3) := by decide +kernel
theorem d_M_clear_15 : decode b_M_clear 15 = .ok (.aload_n 0, 1) := by decide +kernel
theorem d_M_clear_16 : decode b_M_clear 16 = .ok (.iconst 0, 1) := by decide +kernel
theorem d_M_clear_17 : decode b_M_clear 17 = .ok (.putfield 75, 3) := by decide +kernel
theorem d_M_clear_20 : decode b_M_clear 20 = .ok (.aload_n 0, 1) := by decide +kernel
theorem d_M_clear_21 : decode b_M_clear 21 = .ok (.iconst 0, 1) := by decide +kernel
theorem d_M_clear_22 : decode b_M_clear 22 = .ok (.putfield 54, 3) := by decide +kernel
theorem d_M_clear_25 : decode b_M_clear 25 = .ok (.iconst 0, 1) := by decide +kernel
theorem d_M_clear_26 : decode b_M_clear 26 = .ok (.istore_n 2, 1) := by decide +kernel
theorem d_M_clear_27 : decode b_M_clear 27 = .ok (.iload_n 2, 1) := by decide +kernel
theorem d_M_clear_28 : decode b_M_clear 28 = .ok (.bipush 8, 2) := by decide +kernel
theorem d_M_clear_30 : decode b_M_clear 30 = .ok (.if_icmp .ge 16, 3) := by decide +kernel
theorem d_M_clear_33 : decode b_M_clear 33 = .ok (.aload_n 0, 1) := by decide +kernel
theorem d_M_clear_34 : decode b_M_clear 34 = .ok (.getfield 7, 3) := by decide +kernel
theorem d_M_clear_37 : decode b_M_clear 37 = .ok (.iload_n 2, 1) := by decide +kernel
theorem d_M_clear_38 : decode b_M_clear 38 = .ok (.iconst 0, 1) := by decide +kernel
theorem d_M_clear_39 : decode b_M_clear 39 = .ok (.iastore, 1) := by decide +kernel
theorem d_M_clear_40 : decode b_M_clear 40 = .ok (.iinc 2 1, 3) := by decide +kernel
theorem d_M_clear_43 : decode b_M_clear 43 = .ok (.goto (-16), 3) := by decide +kernel
theorem d_M_clear_46 : decode b_M_clear 46 = .ok (.iconst 0, 1) := by decide +kernel
theorem d_M_clear_47 : decode b_M_clear 47 = .ok (.istore_n 2, 1) := by decide +kernel
theorem d_M_clear_48 : decode b_M_clear 48 = .ok (.iload_n 2, 1) := by decide +kernel
theorem d_M_clear_49 : decode b_M_clear 49 = .ok (.bipush 6, 2) := by decide +kernel
theorem d_M_clear_51 : decode b_M_clear 51 = .ok (.if_icmp .ge 16, 3) := by decide +kernel
theorem d_M_clear_54 : decode b_M_clear 54 = .ok (.aload_n 0, 1) := by decide +kernel
theorem d_M_clear_55 : decode b_M_clear 55 = .ok (.getfield 32, 3) := by decide +kernel
theorem d_M_clear_58 : decode b_M_clear 58 = .ok (.iload_n 2, 1) := by decide +kernel
theorem d_M_clear_59 : decode b_M_clear 59 = .ok (.iconst 0, 1) := by decide +kernel
theorem d_M_clear_60 : decode b_M_clear 60 = .ok (.iastore, 1) := by decide +kernel
theorem d_M_clear_61 : decode b_M_clear 61 = .ok (.iinc 2 1, 3) := by decide +kernel
theorem d_M_clear_64 : decode b_M_clear 64 = .ok (.goto (-16), 3) := by decide +kernel
theorem d_M_clear_67 : decode b_M_clear 67 = .ok (.iload_n 1, 1) := by decide +kernel
theorem d_M_clear_68 : decode b_M_clear 68 = .ok (.ireturn, 1) := by decide +kernel
abbrev y_M_closes : MethodName := ⟨"HistoryJudgeModel", "closes", "(II)Z"⟩
abbrev b_M_closes : ByteArray := prog_7_method_25_code
theorem d_M_closes_0 : decode b_M_closes 0 = .ok (.iconst 0, 1) := by decide +kernel
theorem d_M_closes_1 : decode b_M_closes 1 = .ok (.istore_n 3, 1) := by decide +kernel
theorem d_M_closes_2 : decode b_M_closes 2 = .ok (.iconst 0, 1) := by decide +kernel
theorem d_M_closes_3 : decode b_M_closes 3 = .ok (.istore 4, 2) := by decide +kernel
theorem d_M_closes_5 : decode b_M_closes 5 = .ok (.iconst 0, 1) := by decide +kernel
theorem d_M_closes_6 : decode b_M_closes 6 = .ok (.istore 5, 2) := by decide +kernel
theorem d_M_closes_8 : decode b_M_closes 8 = .ok (.iload 5, 2) := by decide +kernel
theorem d_M_closes_10 : decode b_M_closes 10 = .ok (.iload_n 2, 1) := by decide +kernel
theorem d_M_closes_11 : decode b_M_closes 11 = .ok (.if_icmp .ge 83, 3) := by decide +kernel
theorem d_M_closes_14 : decode b_M_closes 14 = .ok (.aload_n 0, 1) := by decide +kernel
theorem d_M_closes_15 : decode b_M_closes 15 = .ok (.getfield 38, 3) := by decide +kernel
theorem d_M_closes_18 : decode b_M_closes 18 = .ok (.bipush 8, 2) := by decide +kernel
theorem d_M_closes_20 : decode b_M_closes 20 = .ok (.aload_n 0, 1) := by decide +kernel
theorem d_M_closes_21 : decode b_M_closes 21 = .ok (.getfield 41, 3) := by decide +kernel
theorem d_M_closes_24 : decode b_M_closes 24 = .ok (.iload 5, 2) := by decide +kernel
theorem d_M_closes_26 : decode b_M_closes 26 = .ok (.iaload, 1) := by decide +kernel
theorem d_M_closes_27 : decode b_M_closes 27 = .ok (.imul, 1) := by decide +kernel
theorem d_M_closes_28 : decode b_M_closes 28 = .ok (.aload_n 0, 1) := by decide +kernel
theorem d_M_closes_29 : decode b_M_closes 29 = .ok (.getfield 41, 3) := by decide +kernel
theorem d_M_closes_32 : decode b_M_closes 32 = .ok (.iload 5, 2) := by decide +kernel
theorem d_M_closes_34 : decode b_M_closes 34 = .ok (.iconst 1, 1) := by decide +kernel
theorem d_M_closes_35 : decode b_M_closes 35 = .ok (.iadd, 1) := by decide +kernel
theorem d_M_closes_36 : decode b_M_closes 36 = .ok (.iload_n 2, 1) := by decide +kernel
theorem d_M_closes_37 : decode b_M_closes 37 = .ok (.irem, 1) := by decide +kernel
theorem d_M_closes_38 : decode b_M_closes 38 = .ok (.iaload, 1) := by decide +kernel
theorem d_M_closes_39 : decode b_M_closes 39 = .ok (.iadd, 1) := by decide +kernel
theorem d_M_closes_40 : decode b_M_closes 40 = .ok (.iaload, 1) := by decide +kernel
theorem d_M_closes_41 : decode b_M_closes 41 = .ok (.istore 6, 2) := by decide +kernel
theorem d_M_closes_43 : decode b_M_closes 43 = .ok (.iload 6, 2) := by decide +kernel
theorem d_M_closes_45 : decode b_M_closes 45 = .ok (.iload_n 1, 1) := by decide +kernel
theorem d_M_closes_46 : decode b_M_closes 46 = .ok (.invokestatic 100, 3) := by decide +kernel
theorem d_M_closes_49 : decode b_M_closes 49 = .ok (.iand, 1) := by decide +kernel
theorem d_M_closes_50 : decode b_M_closes 50 = .ok (.ifCond .ne 5, 3) := by decide +kernel
theorem d_M_closes_53 : decode b_M_closes 53 = .ok (.iconst 0, 1) := by decide +kernel
theorem d_M_closes_54 : decode b_M_closes 54 = .ok (.ireturn, 1) := by decide +kernel
theorem d_M_closes_55 : decode b_M_closes 55 = .ok (.iload 6, 2) := by decide +kernel
theorem d_M_closes_57 : decode b_M_closes 57 = .ok (.iconst 3, 1) := by decide +kernel
theorem d_M_closes_58 : decode b_M_closes 58 = .ok (.iand, 1) := by decide +kernel
theorem d_M_closes_59 : decode b_M_closes 59 = .ok (.ifCond .ne 9, 3) := by decide +kernel
theorem d_M_closes_62 : decode b_M_closes 62 = .ok (.iload_n 3, 1) := by decide +kernel
theorem d_M_closes_63 : decode b_M_closes 63 = .ok (.iconst 1, 1) := by decide +kernel
theorem d_M_closes_64 : decode b_M_closes 64 = .ok (.iadd, 1) := by decide +kernel
theorem d_M_closes_65 : decode b_M_closes 65 = .ok (.goto 4, 3) := by decide +kernel
theorem d_M_closes_68 : decode b_M_closes 68 = .ok (.iload_n 3, 1) := by decide +kernel
theorem d_M_closes_69 : decode b_M_closes 69 = .ok (.istore_n 3, 1) := by decide +kernel
theorem d_M_closes_70 : decode b_M_closes 70 = .ok (.iload 6, 2) := by decide +kernel
theorem d_M_closes_72 : decode b_M_closes 72 = .ok (.iconst 4, 1) := by decide +kernel
theorem d_M_closes_73 : decode b_M_closes 73 = .ok (.iand, 1) := by decide +kernel
theorem d_M_closes_74 : decode b_M_closes 74 = .ok (.ifCond .eq 10, 3) := by decide +kernel
theorem d_M_closes_77 : decode b_M_closes 77 = .ok (.iload 4, 2) := by decide +kernel
theorem d_M_closes_79 : decode b_M_closes 79 = .ok (.iconst 1, 1) := by decide +kernel
theorem d_M_closes_80 : decode b_M_closes 80 = .ok (.iadd, 1) := by decide +kernel
theorem d_M_closes_81 : decode b_M_closes 81 = .ok (.goto 5, 3) := by decide +kernel
theorem d_M_closes_84 : decode b_M_closes 84 = .ok (.iload 4, 2) := by decide +kernel
theorem d_M_closes_86 : decode b_M_closes 86 = .ok (.istore 4, 2) := by decide +kernel
theorem d_M_closes_88 : decode b_M_closes 88 = .ok (.iinc 5 1, 3) := by decide +kernel
theorem d_M_closes_91 : decode b_M_closes 91 = .ok (.goto (-83), 3) := by decide +kernel
theorem d_M_closes_94 : decode b_M_closes 94 = .ok (.iload_n 1, 1) := by decide +kernel
theorem d_M_closes_95 : decode b_M_closes 95 = .ok (.iconst 2, 1) := by decide +kernel
theorem d_M_closes_96 : decode b_M_closes 96 = .ok (.if_icmp .lt 18, 3) := by decide +kernel
theorem d_M_closes_99 : decode b_M_closes 99 = .ok (.iload 4, 2) := by decide +kernel
theorem d_M_closes_101 : decode b_M_closes 101 = .ok (.ifCond .le 17, 3) := by decide +kernel
theorem d_M_closes_104 : decode b_M_closes 104 = .ok (.iload_n 1, 1) := by decide +kernel
theorem d_M_closes_105 : decode b_M_closes 105 = .ok (.iconst 3, 1) := by decide +kernel
theorem d_M_closes_106 : decode b_M_closes 106 = .ok (.if_icmp .eq 8, 3) := by decide +kernel
theorem d_M_closes_109 : decode b_M_closes 109 = .ok (.iload_n 3, 1) := by decide +kernel
theorem d_M_closes_110 : decode b_M_closes 110 = .ok (.iconst 2, 1) := by decide +kernel
theorem d_M_closes_111 : decode b_M_closes 111 = .ok (.if_icmp .ge 7, 3) := by decide +kernel
theorem d_M_closes_114 : decode b_M_closes 114 = .ok (.iconst 1, 1) := by decide +kernel
theorem d_M_closes_115 : decode b_M_closes 115 = .ok (.goto 4, 3) := by decide +kernel
theorem d_M_closes_118 : decode b_M_closes 118 = .ok (.iconst 0, 1) := by decide +kernel
theorem d_M_closes_119 : decode b_M_closes 119 = .ok (.ireturn, 1) := by decide +kernel
abbrev y_M_committed : MethodName := ⟨"HistoryJudgeModel", "committed", "()I"⟩
abbrev b_M_committed : ByteArray := prog_7_method_35_code
theorem d_M_committed_0 : decode b_M_committed 0 = .ok (.iconst 0, 1) := by decide +kernel
theorem d_M_committed_1 : decode b_M_committed 1 = .ok (.istore_n 1, 1) := by decide +kernel
theorem d_M_committed_2 : decode b_M_committed 2 = .ok (.iconst 0, 1) := by decide +kernel
theorem d_M_committed_3 : decode b_M_committed 3 = .ok (.istore_n 2, 1) := by decide +kernel
theorem d_M_committed_4 : decode b_M_committed 4 = .ok (.iload_n 2, 1) := by decide +kernel
theorem d_M_committed_5 : decode b_M_committed 5 = .ok (.bipush 8, 2) := by decide +kernel
theorem d_M_committed_7 : decode b_M_committed 7 = .ok (.if_icmp .ge 25, 3) := by decide +kernel
theorem d_M_committed_10 : decode b_M_committed 10 = .ok (.aload_n 0, 1) := by decide +kernel
theorem d_M_committed_11 : decode b_M_committed 11 = .ok (.iload_n 2, 1) := by decide +kernel
theorem d_M_committed_12 : decode b_M_committed 12 = .ok (.invokevirtual 85, 3) := by decide +kernel
theorem d_M_committed_15 : decode b_M_committed 15 = .ok (.ifCond .eq 9, 3) := by decide +kernel
theorem d_M_committed_18 : decode b_M_committed 18 = .ok (.iload_n 1, 1) := by decide +kernel
theorem d_M_committed_19 : decode b_M_committed 19 = .ok (.iconst 1, 1) := by decide +kernel
theorem d_M_committed_20 : decode b_M_committed 20 = .ok (.iadd, 1) := by decide +kernel
theorem d_M_committed_21 : decode b_M_committed 21 = .ok (.goto 4, 3) := by decide +kernel
theorem d_M_committed_24 : decode b_M_committed 24 = .ok (.iload_n 1, 1) := by decide +kernel
theorem d_M_committed_25 : decode b_M_committed 25 = .ok (.istore_n 1, 1) := by decide +kernel
theorem d_M_committed_26 : decode b_M_committed 26 = .ok (.iinc 2 1, 3) := by decide +kernel
theorem d_M_committed_29 : decode b_M_committed 29 = .ok (.goto (-25), 3) := by decide +kernel
theorem d_M_committed_32 : decode b_M_committed 32 = .ok (.iload_n 1, 1) := by decide +kernel
theorem d_M_committed_33 : decode b_M_committed 33 = .ok (.ireturn, 1) := by decide +kernel
abbrev y_M_cycle : MethodName := ⟨"HistoryJudgeModel", "cycle", "(I)I"⟩
abbrev b_M_cycle : ByteArray := prog_7_method_29_code
theorem d_M_cycle_0 : decode b_M_cycle 0 = .ok (.aload_n 0, 1) := by decide +kernel
theorem d_M_cycle_1 : decode b_M_cycle 1 = .ok (.iconst 0, 1) := by decide +kernel
theorem d_M_cycle_2 : decode b_M_cycle 2 = .ok (.putfield 50, 3) := by decide +kernel
theorem d_M_cycle_5 : decode b_M_cycle 5 = .ok (.aload_n 0, 1) := by decide +kernel
theorem d_M_cycle_6 : decode b_M_cycle 6 = .ok (.iload_n 1, 1) := by decide +kernel
theorem d_M_cycle_7 : decode b_M_cycle 7 = .ok (.invokevirtual 120, 3) := by decide +kernel
theorem d_M_cycle_10 : decode b_M_cycle 10 = .ok (.ireturn, 1) := by decide +kernel
abbrev y_M_draw : MethodName := ⟨"HistoryJudgeModel", "draw", "()V"⟩
abbrev b_M_draw : ByteArray := prog_7_method_22_code
theorem d_M_draw_0 : decode b_M_draw 0 = .ok (.iconst 0, 1) := by decide +kernel
theorem d_M_draw_1 : decode b_M_draw 1 = .ok (.istore_n 1, 1) := by decide +kernel
theorem d_M_draw_2 : decode b_M_draw 2 = .ok (.iload_n 1, 1) := by decide +kernel
theorem d_M_draw_3 : decode b_M_draw 3 = .ok (.bipush 8, 2) := by decide +kernel
theorem d_M_draw_5 : decode b_M_draw 5 = .ok (.if_icmp .ge 40, 3) := by decide +kernel
theorem d_M_draw_8 : decode b_M_draw 8 = .ok (.iconst 0, 1) := by decide +kernel
theorem d_M_draw_9 : decode b_M_draw 9 = .ok (.istore_n 2, 1) := by decide +kernel
theorem d_M_draw_10 : decode b_M_draw 10 = .ok (.iload_n 2, 1) := by decide +kernel
theorem d_M_draw_11 : decode b_M_draw 11 = .ok (.bipush 8, 2) := by decide +kernel
theorem d_M_draw_13 : decode b_M_draw 13 = .ok (.if_icmp .ge 26, 3) := by decide +kernel
theorem d_M_draw_16 : decode b_M_draw 16 = .ok (.aload_n 0, 1) := by decide +kernel
theorem d_M_draw_17 : decode b_M_draw 17 = .ok (.getfield 38, 3) := by decide +kernel
theorem d_M_draw_20 : decode b_M_draw 20 = .ok (.bipush 8, 2) := by decide +kernel
theorem d_M_draw_22 : decode b_M_draw 22 = .ok (.iload_n 1, 1) := by decide +kernel
theorem d_M_draw_23 : decode b_M_draw 23 = .ok (.imul, 1) := by decide +kernel
theorem d_M_draw_24 : decode b_M_draw 24 = .ok (.iload_n 2, 1) := by decide +kernel
theorem d_M_draw_25 : decode b_M_draw 25 = .ok (.iadd, 1) := by decide +kernel
theorem d_M_draw_26 : decode b_M_draw 26 = .ok (.aload_n 0, 1) := by decide +kernel
theorem d_M_draw_27 : decode b_M_draw 27 = .ok (.iload_n 1, 1) := by decide +kernel
theorem d_M_draw_28 : decode b_M_draw 28 = .ok (.iload_n 2, 1) := by decide +kernel
theorem d_M_draw_29 : decode b_M_draw 29 = .ok (.invokevirtual 97, 3) := by decide +kernel
theorem d_M_draw_32 : decode b_M_draw 32 = .ok (.iastore, 1) := by decide +kernel
theorem d_M_draw_33 : decode b_M_draw 33 = .ok (.iinc 2 1, 3) := by decide +kernel
theorem d_M_draw_36 : decode b_M_draw 36 = .ok (.goto (-26), 3) := by decide +kernel
theorem d_M_draw_39 : decode b_M_draw 39 = .ok (.iinc 1 1, 3) := by decide +kernel
theorem d_M_draw_42 : decode b_M_draw 42 = .ok (.goto (-40), 3) := by decide +kernel
theorem d_M_draw_45 : decode b_M_draw 45 = .ok (.return_, 1) := by decide +kernel
abbrev y_M_edge : MethodName := ⟨"HistoryJudgeModel", "edge", "(II)I"⟩
abbrev b_M_edge : ByteArray := prog_7_method_20_code
theorem d_M_edge_0 : decode b_M_edge 0 = .ok (.iload_n 1, 1) := by decide +kernel
theorem d_M_edge_1 : decode b_M_edge 1 = .ok (.iload_n 2, 1) := by decide +kernel
theorem d_M_edge_2 : decode b_M_edge 2 = .ok (.if_icmp .eq 19, 3) := by decide +kernel
theorem d_M_edge_5 : decode b_M_edge 5 = .ok (.aload_n 0, 1) := by decide +kernel
theorem d_M_edge_6 : decode b_M_edge 6 = .ok (.iload_n 1, 1) := by decide +kernel
theorem d_M_edge_7 : decode b_M_edge 7 = .ok (.invokevirtual 85, 3) := by decide +kernel
theorem d_M_edge_10 : decode b_M_edge 10 = .ok (.ifCond .eq 11, 3) := by decide +kernel
theorem d_M_edge_13 : decode b_M_edge 13 = .ok (.aload_n 0, 1) := by decide +kernel
theorem d_M_edge_14 : decode b_M_edge 14 = .ok (.iload_n 2, 1) := by decide +kernel
theorem d_M_edge_15 : decode b_M_edge 15 = .ok (.invokevirtual 85, 3) := by decide +kernel
theorem d_M_edge_18 : decode b_M_edge 18 = .ok (.ifCond .ne 5, 3) := by decide +kernel
theorem d_M_edge_21 : decode b_M_edge 21 = .ok (.iconst 0, 1) := by decide +kernel
theorem d_M_edge_22 : decode b_M_edge 22 = .ok (.ireturn, 1) := by decide +kernel
theorem d_M_edge_23 : decode b_M_edge 23 = .ok (.aload_n 0, 1) := by decide +kernel
theorem d_M_edge_24 : decode b_M_edge 24 = .ok (.iload_n 1, 1) := by decide +kernel
theorem d_M_edge_25 : decode b_M_edge 25 = .ok (.iload_n 2, 1) := by decide +kernel
theorem d_M_edge_26 : decode b_M_edge 26 = .ok (.invokevirtual 88, 3) := by decide +kernel
theorem d_M_edge_29 : decode b_M_edge 29 = .ok (.ifCond .eq 7, 3) := by decide +kernel
theorem d_M_edge_32 : decode b_M_edge 32 = .ok (.iconst 1, 1) := by decide +kernel
theorem d_M_edge_33 : decode b_M_edge 33 = .ok (.goto 4, 3) := by decide +kernel
theorem d_M_edge_36 : decode b_M_edge 36 = .ok (.iconst 0, 1) := by decide +kernel
theorem d_M_edge_37 : decode b_M_edge 37 = .ok (.aload_n 0, 1) := by decide +kernel
theorem d_M_edge_38 : decode b_M_edge 38 = .ok (.iload_n 2, 1) := by decide +kernel
theorem d_M_edge_39 : decode b_M_edge 39 = .ok (.iload_n 1, 1) := by decide +kernel
theorem d_M_edge_40 : decode b_M_edge 40 = .ok (.invokevirtual 91, 3) := by decide +kernel
theorem d_M_edge_43 : decode b_M_edge 43 = .ok (.ifCond .eq 7, 3) := by decide +kernel
theorem d_M_edge_46 : decode b_M_edge 46 = .ok (.iconst 2, 1) := by decide +kernel
theorem d_M_edge_47 : decode b_M_edge 47 = .ok (.goto 4, 3) := by decide +kernel
theorem d_M_edge_50 : decode b_M_edge 50 = .ok (.iconst 0, 1) := by decide +kernel
theorem d_M_edge_51 : decode b_M_edge 51 = .ok (.iadd, 1) := by decide +kernel
theorem d_M_edge_52 : decode b_M_edge 52 = .ok (.aload_n 0, 1) := by decide +kernel
theorem d_M_edge_53 : decode b_M_edge 53 = .ok (.iload_n 1, 1) := by decide +kernel
theorem d_M_edge_54 : decode b_M_edge 54 = .ok (.iload_n 2, 1) := by decide +kernel
theorem d_M_edge_55 : decode b_M_edge 55 = .ok (.invokevirtual 94, 3) := by decide +kernel
theorem d_M_edge_58 : decode b_M_edge 58 = .ok (.ifCond .eq 7, 3) := by decide +kernel
theorem d_M_edge_61 : decode b_M_edge 61 = .ok (.iconst 4, 1) := by decide +kernel
theorem d_M_edge_62 : decode b_M_edge 62 = .ok (.goto 4, 3) := by decide +kernel
theorem d_M_edge_65 : decode b_M_edge 65 = .ok (.iconst 0, 1) := by decide +kernel
theorem d_M_edge_66 : decode b_M_edge 66 = .ok (.iadd, 1) := by decide +kernel
theorem d_M_edge_67 : decode b_M_edge 67 = .ok (.ireturn, 1) := by decide +kernel
abbrev y_M_edges : MethodName := ⟨"HistoryJudgeModel", "edges", "(II)I"⟩
abbrev b_M_edges : ByteArray := prog_7_method_21_code
theorem d_M_edges_0 : decode b_M_edges 0 = .ok (.aload_n 0, 1) := by decide +kernel
theorem d_M_edges_1 : decode b_M_edges 1 = .ok (.iconst 0, 1) := by decide +kernel
theorem d_M_edges_2 : decode b_M_edges 2 = .ok (.putfield 50, 3) := by decide +kernel
theorem d_M_edges_5 : decode b_M_edges 5 = .ok (.iload_n 1, 1) := by decide +kernel
theorem d_M_edges_6 : decode b_M_edges 6 = .ok (.invokestatic 57, 3) := by decide +kernel
theorem d_M_edges_9 : decode b_M_edges 9 = .ok (.ifCond .eq 19, 3) := by decide +kernel
theorem d_M_edges_12 : decode b_M_edges 12 = .ok (.iload_n 2, 1) := by decide +kernel
theorem d_M_edges_13 : decode b_M_edges 13 = .ok (.invokestatic 57, 3) := by decide +kernel
theorem d_M_edges_16 : decode b_M_edges 16 = .ok (.ifCond .eq 12, 3) := by decide +kernel
theorem d_M_edges_19 : decode b_M_edges 19 = .ok (.aload_n 0, 1) := by decide +kernel
theorem d_M_edges_20 : decode b_M_edges 20 = .ok (.iload_n 1, 1) := by decide +kernel
theorem d_M_edges_21 : decode b_M_edges 21 = .ok (.iload_n 2, 1) := by decide +kernel
theorem d_M_edges_22 : decode b_M_edges 22 = .ok (.invokevirtual 97, 3) := by decide +kernel
theorem d_M_edges_25 : decode b_M_edges 25 = .ok (.goto 4, 3) := by decide +kernel
theorem d_M_edges_28 : decode b_M_edges 28 = .ok (.iconst 0, 1) := by decide +kernel
theorem d_M_edges_29 : decode b_M_edges 29 = .ok (.ireturn, 1) := by decide +kernel
abbrev y_M_end : MethodName := ⟨"HistoryJudgeModel", "end", "(IZ)V"⟩
abbrev b_M_end : ByteArray := prog_7_method_10_code
theorem d_M_end_0 : decode b_M_end 0 = .ok (.aload_n 0, 1) := by decide +kernel
theorem d_M_end_1 : decode b_M_end 1 = .ok (.iload_n 1, 1) := by decide +kernel
theorem d_M_end_2 : decode b_M_end 2 = .ok (.invokestatic 57, 3) := by decide +kernel
theorem d_M_end_5 : decode b_M_end 5 = .ok (.ifCond .ne 7, 3) := by decide +kernel
theorem d_M_end_8 : decode b_M_end 8 = .ok (.iconst 1, 1) := by decide +kernel
theorem d_M_end_9 : decode b_M_end 9 = .ok (.goto 18, 3) := by decide +kernel
theorem d_M_end_12 : decode b_M_end 12 = .ok (.aload_n 0, 1) := by decide +kernel
theorem d_M_end_13 : decode b_M_end 13 = .ok (.getfield 7, 3) := by decide +kernel
theorem d_M_end_16 : decode b_M_end 16 = .ok (.iload_n 1, 1) := by decide +kernel
theorem d_M_end_17 : decode b_M_end 17 = .ok (.iaload, 1) := by decide +kernel
theorem d_M_end_18 : decode b_M_end 18 = .ok (.iconst 1, 1) := by decide +kernel
theorem d_M_end_19 : decode b_M_end 19 = .ok (.if_icmp .eq 7, 3) := by decide +kernel
theorem d_M_end_22 : decode b_M_end 22 = .ok (.iconst 2, 1) := by decide +kernel
theorem d_M_end_23 : decode b_M_end 23 = .ok (.goto 4, 3) := by decide +kernel
theorem d_M_end_26 : decode b_M_end 26 = .ok (.iconst 0, 1) := by decide +kernel
theorem d_M_end_27 : decode b_M_end 27 = .ok (.putfield 50, 3) := by decide +kernel
theorem d_M_end_30 : decode b_M_end 30 = .ok (.aload_n 0, 1) := by decide +kernel
theorem d_M_end_31 : decode b_M_end 31 = .ok (.getfield 50, 3) := by decide +kernel
theorem d_M_end_34 : decode b_M_end 34 = .ok (.ifCond .le 4, 3) := by decide +kernel
theorem d_M_end_37 : decode b_M_end 37 = .ok (.return_, 1) := by decide +kernel
theorem d_M_end_38 : decode b_M_end 38 = .ok (.aload_n 0, 1) := by decide +kernel
theorem d_M_end_39 : decode b_M_end 39 = .ok (.getfield 7, 3) := by decide +kernel
theorem d_M_end_42 : decode b_M_end 42 = .ok (.iload_n 1, 1) := by decide +kernel
theorem d_M_end_43 : decode b_M_end 43 = .ok (.iload_n 2, 1) := by decide +kernel
theorem d_M_end_44 : decode b_M_end 44 = .ok (.ifCond .eq 7, 3) := by decide +kernel
theorem d_M_end_47 : decode b_M_end 47 = .ok (.iconst 2, 1) := by decide +kernel
theorem d_M_end_48 : decode b_M_end 48 = .ok (.goto 4, 3) := by decide +kernel
theorem d_M_end_51 : decode b_M_end 51 = .ok (.iconst 3, 1) := by decide +kernel
theorem d_M_end_52 : decode b_M_end 52 = .ok (.iastore, 1) := by decide +kernel
theorem d_M_end_53 : decode b_M_end 53 = .ok (.iconst 0, 1) := by decide +kernel
theorem d_M_end_54 : decode b_M_end 54 = .ok (.istore_n 3, 1) := by decide +kernel
theorem d_M_end_55 : decode b_M_end 55 = .ok (.iload_n 3, 1) := by decide +kernel
theorem d_M_end_56 : decode b_M_end 56 = .ok (.aload_n 0, 1) := by decide +kernel
theorem d_M_end_57 : decode b_M_end 57 = .ok (.getfield 64, 3) := by decide +kernel
theorem d_M_end_60 : decode b_M_end 60 = .ok (.if_icmp .ge 74, 3) := by decide +kernel
theorem d_M_end_63 : decode b_M_end 63 = .ok (.iload_n 2, 1) := by decide +kernel
theorem d_M_end_64 : decode b_M_end 64 = .ok (.ifCond .eq 70, 3) := by decide +kernel
theorem d_M_end_67 : decode b_M_end 67 = .ok (.aload_n 0, 1) := by decide +kernel
theorem d_M_end_68 : decode b_M_end 68 = .ok (.getfield 13, 3) := by decide +kernel
theorem d_M_end_71 : decode b_M_end 71 = .ok (.iload_n 3, 1) := by decide +kernel
theorem d_M_end_72 : decode b_M_end 72 = .ok (.iaload, 1) := by decide +kernel
theorem d_M_end_73 : decode b_M_end 73 = .ok (.iload_n 1, 1) := by decide +kernel
theorem d_M_end_74 : decode b_M_end 74 = .ok (.if_icmp .ne 54, 3) := by decide +kernel
theorem d_M_end_77 : decode b_M_end 77 = .ok (.aload_n 0, 1) := by decide +kernel
theorem d_M_end_78 : decode b_M_end 78 = .ok (.iload_n 3, 1) := by decide +kernel
theorem d_M_end_79 : decode b_M_end 79 = .ok (.invokevirtual 78, 3) := by decide +kernel
theorem d_M_end_82 : decode b_M_end 82 = .ok (.ifCond .eq 46, 3) := by decide +kernel
theorem d_M_end_85 : decode b_M_end 85 = .ok (.aload_n 0, 1) := by decide +kernel
theorem d_M_end_86 : decode b_M_end 86 = .ok (.getfield 16, 3) := by decide +kernel
theorem d_M_end_89 : decode b_M_end 89 = .ok (.iload_n 3, 1) := by decide +kernel
theorem d_M_end_90 : decode b_M_end 90 = .ok (.iaload, 1) := by decide +kernel
theorem d_M_end_91 : decode b_M_end 91 = .ok (.istore 4, 2) := by decide +kernel
theorem d_M_end_93 : decode b_M_end 93 = .ok (.aload_n 0, 1) := by decide +kernel
theorem d_M_end_94 : decode b_M_end 94 = .ok (.getfield 35, 3) := by decide +kernel
theorem d_M_end_97 : decode b_M_end 97 = .ok (.bipush 8, 2) := by decide +kernel
theorem d_M_end_99 : decode b_M_end 99 = .ok (.iload 4, 2) := by decide +kernel
theorem d_M_end_101 : decode b_M_end 101 = .ok (.imul, 1) := by decide +kernel
theorem d_M_end_102 : decode b_M_end 102 = .ok (.aload_n 0, 1) := by decide +kernel
theorem d_M_end_103 : decode b_M_end 103 = .ok (.getfield 32, 3) := by decide +kernel
theorem d_M_end_106 : decode b_M_end 106 = .ok (.iload 4, 2) := by decide +kernel
theorem d_M_end_108 : decode b_M_end 108 = .ok (.iaload, 1) := by decide +kernel
theorem d_M_end_109 : decode b_M_end 109 = .ok (.iadd, 1) := by decide +kernel
theorem d_M_end_110 : decode b_M_end 110 = .ok (.iload_n 3, 1) := by decide +kernel
theorem d_M_end_111 : decode b_M_end 111 = .ok (.iastore, 1) := by decide +kernel
theorem d_M_end_112 : decode b_M_end 112 = .ok (.aload_n 0, 1) := by decide +kernel
theorem d_M_end_113 : decode b_M_end 113 = .ok (.getfield 32, 3) := by decide +kernel
theorem d_M_end_116 : decode b_M_end 116 = .ok (.iload 4, 2) := by decide +kernel
theorem d_M_end_118 : decode b_M_end 118 = .ok (.aload_n 0, 1) := by decide +kernel
theorem d_M_end_119 : decode b_M_end 119 = .ok (.getfield 32, 3) := by decide +kernel
theorem d_M_end_122 : decode b_M_end 122 = .ok (.iload 4, 2) := by decide +kernel
theorem d_M_end_124 : decode b_M_end 124 = .ok (.iaload, 1) := by decide +kernel
theorem d_M_end_125 : decode b_M_end 125 = .ok (.iconst 1, 1) := by decide +kernel
theorem d_M_end_126 : decode b_M_end 126 = .ok (.iadd, 1) := by decide +kernel
theorem d_M_end_127 : decode b_M_end 127 = .ok (.iastore, 1) := by decide +kernel
theorem d_M_end_128 : decode b_M_end 128 = .ok (.iinc 3 1, 3) := by decide +kernel
theorem d_M_end_131 : decode b_M_end 131 = .ok (.goto (-76), 3) := by decide +kernel
theorem d_M_end_134 : decode b_M_end 134 = .ok (.return_, 1) := by decide +kernel
abbrev y_M_exchange : MethodName := ⟨"HistoryJudgeModel", "exchange", "(II)Z"⟩
abbrev b_M_exchange : ByteArray := prog_7_method_13_code
theorem d_M_exchange_0 : decode b_M_exchange 0 = .ok (.aload_n 0, 1) := by decide +kernel
theorem d_M_exchange_1 : decode b_M_exchange 1 = .ok (.iconst 0, 1) := by decide +kernel
theorem d_M_exchange_2 : decode b_M_exchange 2 = .ok (.putfield 50, 3) := by decide +kernel
theorem d_M_exchange_5 : decode b_M_exchange 5 = .ok (.iload_n 1, 1) := by decide +kernel
theorem d_M_exchange_6 : decode b_M_exchange 6 = .ok (.invokestatic 61, 3) := by decide +kernel
theorem d_M_exchange_9 : decode b_M_exchange 9 = .ok (.ifCond .eq 19, 3) := by decide +kernel
theorem d_M_exchange_12 : decode b_M_exchange 12 = .ok (.iload_n 2, 1) := by decide +kernel
theorem d_M_exchange_13 : decode b_M_exchange 13 = .ok (.ifCond .lt 15, 3) := by decide +kernel
theorem d_M_exchange_16 : decode b_M_exchange 16 = .ok (.iload_n 2, 1) := by decide +kernel
theorem d_M_exchange_17 : decode b_M_exchange 17 = .ok (.aload_n 0, 1) := by decide +kernel
theorem d_M_exchange_18 : decode b_M_exchange 18 = .ok (.getfield 32, 3) := by decide +kernel
theorem d_M_exchange_21 : decode b_M_exchange 21 = .ok (.iload_n 1, 1) := by decide +kernel
theorem d_M_exchange_22 : decode b_M_exchange 22 = .ok (.iaload, 1) := by decide +kernel
theorem d_M_exchange_23 : decode b_M_exchange 23 = .ok (.iconst 1, 1) := by decide +kernel
theorem d_M_exchange_24 : decode b_M_exchange 24 = .ok (.isub, 1) := by decide +kernel
theorem d_M_exchange_25 : decode b_M_exchange 25 = .ok (.if_icmp .lt 5, 3) := by decide +kernel
theorem d_M_exchange_28 : decode b_M_exchange 28 = .ok (.iconst 0, 1) := by decide +kernel
theorem d_M_exchange_29 : decode b_M_exchange 29 = .ok (.ireturn, 1) := by decide +kernel
theorem d_M_exchange_30 : decode b_M_exchange 30 = .ok (.aload_n 0, 1) := by decide +kernel
theorem d_M_exchange_31 : decode b_M_exchange 31 = .ok (.getfield 35, 3) := by decide +kernel
theorem d_M_exchange_34 : decode b_M_exchange 34 = .ok (.bipush 8, 2) := by decide +kernel
theorem d_M_exchange_36 : decode b_M_exchange 36 = .ok (.iload_n 1, 1) := by decide +kernel
theorem d_M_exchange_37 : decode b_M_exchange 37 = .ok (.imul, 1) := by decide +kernel
theorem d_M_exchange_38 : decode b_M_exchange 38 = .ok (.iload_n 2, 1) := by decide +kernel
theorem d_M_exchange_39 : decode b_M_exchange 39 = .ok (.iadd, 1) := by decide +kernel
theorem d_M_exchange_40 : decode b_M_exchange 40 = .ok (.iaload, 1) := by decide +kernel
theorem d_M_exchange_41 : decode b_M_exchange 41 = .ok (.istore_n 3, 1) := by decide +kernel
theorem d_M_exchange_42 : decode b_M_exchange 42 = .ok (.aload_n 0, 1) := by decide +kernel
theorem d_M_exchange_43 : decode b_M_exchange 43 = .ok (.getfield 35, 3) := by decide +kernel
theorem d_M_exchange_46 : decode b_M_exchange 46 = .ok (.bipush 8, 2) := by decide +kernel
theorem d_M_exchange_48 : decode b_M_exchange 48 = .ok (.iload_n 1, 1) := by decide +kernel
theorem d_M_exchange_49 : decode b_M_exchange 49 = .ok (.imul, 1) := by decide +kernel
theorem d_M_exchange_50 : decode b_M_exchange 50 = .ok (.iload_n 2, 1) := by decide +kernel
theorem d_M_exchange_51 : decode b_M_exchange 51 = .ok (.iadd, 1) := by decide +kernel
theorem d_M_exchange_52 : decode b_M_exchange 52 = .ok (.aload_n 0, 1) := by decide +kernel
theorem d_M_exchange_53 : decode b_M_exchange 53 = .ok (.getfield 35, 3) := by decide +kernel
theorem d_M_exchange_56 : decode b_M_exchange 56 = .ok (.bipush 8, 2) := by decide +kernel
theorem d_M_exchange_58 : decode b_M_exchange 58 = .ok (.iload_n 1, 1) := by decide +kernel
theorem d_M_exchange_59 : decode b_M_exchange 59 = .ok (.imul, 1) := by decide +kernel
theorem d_M_exchange_60 : decode b_M_exchange 60 = .ok (.iload_n 2, 1) := by decide +kernel
theorem d_M_exchange_61 : decode b_M_exchange 61 = .ok (.iadd, 1) := by decide +kernel
theorem d_M_exchange_62 : decode b_M_exchange 62 = .ok (.iconst 1, 1) := by decide +kernel
theorem d_M_exchange_63 : decode b_M_exchange 63 = .ok (.iadd, 1) := by decide +kernel
theorem d_M_exchange_64 : decode b_M_exchange 64 = .ok (.iaload, 1) := by decide +kernel
theorem d_M_exchange_65 : decode b_M_exchange 65 = .ok (.iastore, 1) := by decide +kernel
theorem d_M_exchange_66 : decode b_M_exchange 66 = .ok (.aload_n 0, 1) := by decide +kernel
theorem d_M_exchange_67 : decode b_M_exchange 67 = .ok (.getfield 35, 3) := by decide +kernel
theorem d_M_exchange_70 : decode b_M_exchange 70 = .ok (.bipush 8, 2) := by decide +kernel
theorem d_M_exchange_72 : decode b_M_exchange 72 = .ok (.iload_n 1, 1) := by decide +kernel
theorem d_M_exchange_73 : decode b_M_exchange 73 = .ok (.imul, 1) := by decide +kernel
theorem d_M_exchange_74 : decode b_M_exchange 74 = .ok (.iload_n 2, 1) := by decide +kernel
theorem d_M_exchange_75 : decode b_M_exchange 75 = .ok (.iadd, 1) := by decide +kernel
theorem d_M_exchange_76 : decode b_M_exchange 76 = .ok (.iconst 1, 1) := by decide +kernel
theorem d_M_exchange_77 : decode b_M_exchange 77 = .ok (.iadd, 1) := by decide +kernel
theorem d_M_exchange_78 : decode b_M_exchange 78 = .ok (.iload_n 3, 1) := by decide +kernel
theorem d_M_exchange_79 : decode b_M_exchange 79 = .ok (.iastore, 1) := by decide +kernel
theorem d_M_exchange_80 : decode b_M_exchange 80 = .ok (.iconst 1, 1) := by decide +kernel
theorem d_M_exchange_81 : decode b_M_exchange 81 = .ok (.ireturn, 1) := by decide +kernel
abbrev y_M_findCycle : MethodName := ⟨"HistoryJudgeModel", "findCycle", "(I)I"⟩
abbrev b_M_findCycle : ByteArray := prog_7_method_28_code
theorem d_M_findCycle_0 : decode b_M_findCycle 0 = .ok (.iload_n 1, 1) := by decide +kernel
theorem d_M_findCycle_1 : decode b_M_findCycle 1 = .ok (.ifCond .lt 8, 3) := by decide +kernel
theorem d_M_findCycle_4 : decode b_M_findCycle 4 = .ok (.iload_n 1, 1) := by decide +kernel
theorem d_M_findCycle_5 : decode b_M_findCycle 5 = .ok (.iconst 3, 1) := by decide +kernel
theorem d_M_findCycle_6 : decode b_M_findCycle 6 = .ok (.if_icmp .le 5, 3) := by decide +kernel
theorem d_M_findCycle_9 : decode b_M_findCycle 9 = .ok (.iconst 0, 1) := by decide +kernel
theorem d_M_findCycle_10 : decode b_M_findCycle 10 = .ok (.ireturn, 1) := by decide +kernel
theorem d_M_findCycle_11 : decode b_M_findCycle 11 = .ok (.aload_n 0, 1) := by decide +kernel
theorem d_M_findCycle_12 : decode b_M_findCycle 12 = .ok (.invokevirtual 114, 3) := by decide +kernel
theorem d_M_findCycle_15 : decode b_M_findCycle 15 = .ok (.iconst 2, 1) := by decide +kernel
theorem d_M_findCycle_16 : decode b_M_findCycle 16 = .ok (.istore_n 2, 1) := by decide +kernel
theorem d_M_findCycle_17 : decode b_M_findCycle 17 = .ok (.iload_n 2, 1) := by decide +kernel
theorem d_M_findCycle_18 : decode b_M_findCycle 18 = .ok (.bipush 9, 2) := by decide +kernel
theorem d_M_findCycle_20 : decode b_M_findCycle 20 = .ok (.if_icmp .ge 20, 3) := by decide +kernel
theorem d_M_findCycle_23 : decode b_M_findCycle 23 = .ok (.aload_n 0, 1) := by decide +kernel
theorem d_M_findCycle_24 : decode b_M_findCycle 24 = .ok (.iload_n 1, 1) := by decide +kernel
theorem d_M_findCycle_25 : decode b_M_findCycle 25 = .ok (.iload_n 2, 1) := by decide +kernel
theorem d_M_findCycle_26 : decode b_M_findCycle 26 = .ok (.invokevirtual 117, 3) := by decide +kernel
theorem d_M_findCycle_29 : decode b_M_findCycle 29 = .ok (.ifCond .eq 5, 3) := by decide +kernel
theorem d_M_findCycle_32 : decode b_M_findCycle 32 = .ok (.iload_n 2, 1) := by decide +kernel
theorem d_M_findCycle_33 : decode b_M_findCycle 33 = .ok (.ireturn, 1) := by decide +kernel
theorem d_M_findCycle_34 : decode b_M_findCycle 34 = .ok (.iinc 2 1, 3) := by decide +kernel
theorem d_M_findCycle_37 : decode b_M_findCycle 37 = .ok (.goto (-20), 3) := by decide +kernel
theorem d_M_findCycle_40 : decode b_M_findCycle 40 = .ok (.iconst 0, 1) := by decide +kernel
theorem d_M_findCycle_41 : decode b_M_findCycle 41 = .ok (.ireturn, 1) := by decide +kernel
abbrev y_M_fits : MethodName := ⟨"HistoryJudgeModel", "fits", "(III)Z"⟩
abbrev b_M_fits : ByteArray := prog_7_method_26_code
theorem d_M_fits_0 : decode b_M_fits 0 = .ok (.aload_n 0, 1) := by decide +kernel
theorem d_M_fits_1 : decode b_M_fits 1 = .ok (.iload_n 3, 1) := by decide +kernel
theorem d_M_fits_2 : decode b_M_fits 2 = .ok (.invokevirtual 85, 3) := by decide +kernel
theorem d_M_fits_5 : decode b_M_fits 5 = .ok (.ifCond .ne 5, 3) := by decide +kernel
theorem d_M_fits_8 : decode b_M_fits 8 = .ok (.iconst 0, 1) := by decide +kernel
theorem d_M_fits_9 : decode b_M_fits 9 = .ok (.ireturn, 1) := by decide +kernel
theorem d_M_fits_10 : decode b_M_fits 10 = .ok (.iload_n 2, 1) := by decide +kernel
theorem d_M_fits_11 : decode b_M_fits 11 = .ok (.ifCond .eq 48, 3) := by decide +kernel
theorem d_M_fits_14 : decode b_M_fits 14 = .ok (.iload_n 3, 1) := by decide +kernel
theorem d_M_fits_15 : decode b_M_fits 15 = .ok (.aload_n 0, 1) := by decide +kernel
theorem d_M_fits_16 : decode b_M_fits 16 = .ok (.getfield 41, 3) := by decide +kernel
theorem d_M_fits_19 : decode b_M_fits 19 = .ok (.iconst 0, 1) := by decide +kernel
theorem d_M_fits_20 : decode b_M_fits 20 = .ok (.iaload, 1) := by decide +kernel
theorem d_M_fits_21 : decode b_M_fits 21 = .ok (.if_icmp .le 42, 3) := by decide +kernel
theorem d_M_fits_24 : decode b_M_fits 24 = .ok (.aload_n 0, 1) := by decide +kernel
theorem d_M_fits_25 : decode b_M_fits 25 = .ok (.iload_n 3, 1) := by decide +kernel
theorem d_M_fits_26 : decode b_M_fits 26 = .ok (.iload_n 2, 1) := by decide +kernel
theorem d_M_fits_27 : decode b_M_fits 27 = .ok (.invokevirtual 104, 3) := by decide +kernel
theorem d_M_fits_30 : decode b_M_fits 30 = .ok (.ifCond .ne 33, 3) := by decide +kernel
theorem d_M_fits_33 : decode b_M_fits 33 = .ok (.aload_n 0, 1) := by decide +kernel
theorem d_M_fits_34 : decode b_M_fits 34 = .ok (.getfield 38, 3) := by decide +kernel
theorem d_M_fits_37 : decode b_M_fits 37 = .ok (.bipush 8, 2) := by decide +kernel
theorem d_M_fits_39 : decode b_M_fits 39 = .ok (.aload_n 0, 1) := by decide +kernel
theorem d_M_fits_40 : decode b_M_fits 40 = .ok (.getfield 41, 3) := by decide +kernel
theorem d_M_fits_43 : decode b_M_fits 43 = .ok (.iload_n 2, 1) := by decide +kernel
theorem d_M_fits_44 : decode b_M_fits 44 = .ok (.iconst 1, 1) := by decide +kernel
theorem d_M_fits_45 : decode b_M_fits 45 = .ok (.isub, 1) := by decide +kernel
theorem d_M_fits_46 : decode b_M_fits 46 = .ok (.iaload, 1) := by decide +kernel
theorem d_M_fits_47 : decode b_M_fits 47 = .ok (.imul, 1) := by decide +kernel
theorem d_M_fits_48 : decode b_M_fits 48 = .ok (.iload_n 3, 1) := by decide +kernel
theorem d_M_fits_49 : decode b_M_fits 49 = .ok (.iadd, 1) := by decide +kernel
theorem d_M_fits_50 : decode b_M_fits 50 = .ok (.iaload, 1) := by decide +kernel
theorem d_M_fits_51 : decode b_M_fits 51 = .ok (.iload_n 1, 1) := by decide +kernel
theorem d_M_fits_52 : decode b_M_fits 52 = .ok (.invokestatic 100, 3) := by decide +kernel
theorem d_M_fits_55 : decode b_M_fits 55 = .ok (.iand, 1) := by decide +kernel
theorem d_M_fits_56 : decode b_M_fits 56 = .ok (.ifCond .eq 7, 3) := by decide +kernel
theorem d_M_fits_59 : decode b_M_fits 59 = .ok (.iconst 1, 1) := by decide +kernel
theorem d_M_fits_60 : decode b_M_fits 60 = .ok (.goto 4, 3) := by decide +kernel
theorem d_M_fits_63 : decode b_M_fits 63 = .ok (.iconst 0, 1) := by decide +kernel
theorem d_M_fits_64 : decode b_M_fits 64 = .ok (.ireturn, 1) := by decide +kernel
abbrev y_M_flaws : MethodName := ⟨"HistoryJudgeModel", "flaws", "()I"⟩
abbrev b_M_flaws : ByteArray := prog_7_method_33_code
theorem d_M_flaws_0 : decode b_M_flaws 0 = .ok (.aload_n 0, 1) := by decide +kernel
theorem d_M_flaws_1 : decode b_M_flaws 1 = .ok (.iconst 0, 1) := by decide +kernel
theorem d_M_flaws_2 : decode b_M_flaws 2 = .ok (.putfield 50, 3) := by decide +kernel
theorem d_M_flaws_5 : decode b_M_flaws 5 = .ok (.aload_n 0, 1) := by decide +kernel
theorem d_M_flaws_6 : decode b_M_flaws 6 = .ok (.invokevirtual 127, 3) := by decide +kernel
theorem d_M_flaws_9 : decode b_M_flaws 9 = .ok (.ireturn, 1) := by decide +kernel
abbrev y_M_follows : MethodName := ⟨"HistoryJudgeModel", "follows", "(II)Z"⟩
abbrev b_M_follows : ByteArray := prog_7_method_17_code
theorem d_M_follows_0 : decode b_M_follows 0 = .ok (.iconst 0, 1) := by decide +kernel
theorem d_M_follows_1 : decode b_M_follows 1 = .ok (.istore_n 3, 1) := by decide +kernel
theorem d_M_follows_2 : decode b_M_follows 2 = .ok (.iconst 0, 1) := by decide +kernel
theorem d_M_follows_3 : decode b_M_follows 3 = .ok (.istore 4, 2) := by decide +kernel
theorem d_M_follows_5 : decode b_M_follows 5 = .ok (.iload 4, 2) := by decide +kernel
theorem d_M_follows_7 : decode b_M_follows 7 = .ok (.aload_n 0, 1) := by decide +kernel
theorem d_M_follows_8 : decode b_M_follows 8 = .ok (.getfield 64, 3) := by decide +kernel
theorem d_M_follows_11 : decode b_M_follows 11 = .ok (.if_icmp .ge 65, 3) := by decide +kernel
theorem d_M_follows_14 : decode b_M_follows 14 = .ok (.aload_n 0, 1) := by decide +kernel
theorem d_M_follows_15 : decode b_M_follows 15 = .ok (.getfield 13, 3) := by decide +kernel
theorem d_M_follows_18 : decode b_M_follows 18 = .ok (.iload 4, 2) := by decide +kernel
theorem d_M_follows_20 : decode b_M_follows 20 = .ok (.iaload, 1) := by decide +kernel
theorem d_M_follows_21 : decode b_M_follows 21 = .ok (.iload_n 1, 1) := by decide +kernel
theorem d_M_follows_22 : decode b_M_follows 22 = .ok (.if_icmp .ne 19, 3) := by decide +kernel
theorem d_M_follows_25 : decode b_M_follows 25 = .ok (.aload_n 0, 1) := by decide +kernel
theorem d_M_follows_26 : decode b_M_follows 26 = .ok (.aload_n 0, 1) := by decide +kernel
theorem d_M_follows_27 : decode b_M_follows 27 = .ok (.getfield 16, 3) := by decide +kernel
theorem d_M_follows_30 : decode b_M_follows 30 = .ok (.iload 4, 2) := by decide +kernel
theorem d_M_follows_32 : decode b_M_follows 32 = .ok (.iaload, 1) := by decide +kernel
theorem d_M_follows_33 : decode b_M_follows 33 = .ok (.iload 4, 2) := by decide +kernel
theorem d_M_follows_35 : decode b_M_follows 35 = .ok (.invokevirtual 81, 3) := by decide +kernel
theorem d_M_follows_38 : decode b_M_follows 38 = .ok (.goto 4, 3) := by decide +kernel
theorem d_M_follows_41 : decode b_M_follows 41 = .ok (.iconst (-1), 1) := by decide +kernel
theorem d_M_follows_42 : decode b_M_follows 42 = .ok (.istore 5, 2) := by decide +kernel
theorem d_M_follows_44 : decode b_M_follows 44 = .ok (.iload_n 3, 1) := by decide +kernel
theorem d_M_follows_45 : decode b_M_follows 45 = .ok (.ifCond .ne 19, 3) := by decide +kernel
theorem d_M_follows_48 : decode b_M_follows 48 = .ok (.iload 5, 2) := by decide +kernel
theorem d_M_follows_50 : decode b_M_follows 50 = .ok (.ifCond .lt 18, 3) := by decide +kernel
theorem d_M_follows_53 : decode b_M_follows 53 = .ok (.aload_n 0, 1) := by decide +kernel
theorem d_M_follows_54 : decode b_M_follows 54 = .ok (.getfield 13, 3) := by decide +kernel
theorem d_M_follows_57 : decode b_M_follows 57 = .ok (.iload 5, 2) := by decide +kernel
theorem d_M_follows_59 : decode b_M_follows 59 = .ok (.iaload, 1) := by decide +kernel
theorem d_M_follows_60 : decode b_M_follows 60 = .ok (.iload_n 2, 1) := by decide +kernel
theorem d_M_follows_61 : decode b_M_follows 61 = .ok (.if_icmp .ne 7, 3) := by decide +kernel
theorem d_M_follows_64 : decode b_M_follows 64 = .ok (.iconst 1, 1) := by decide +kernel
theorem d_M_follows_65 : decode b_M_follows 65 = .ok (.goto 4, 3) := by decide +kernel
theorem d_M_follows_68 : decode b_M_follows 68 = .ok (.iconst 0, 1) := by decide +kernel
theorem d_M_follows_69 : decode b_M_follows 69 = .ok (.istore_n 3, 1) := by decide +kernel
theorem d_M_follows_70 : decode b_M_follows 70 = .ok (.iinc 4 1, 3) := by decide +kernel
theorem d_M_follows_73 : decode b_M_follows 73 = .ok (.goto (-68), 3) := by decide +kernel
theorem d_M_follows_76 : decode b_M_follows 76 = .ok (.iload_n 3, 1) := by decide +kernel
theorem d_M_follows_77 : decode b_M_follows 77 = .ok (.ireturn, 1) := by decide +kernel
abbrev y_M_hasRead : MethodName := ⟨"HistoryJudgeModel", "hasRead", "(II)Z"⟩
abbrev b_M_hasRead : ByteArray := prog_7_method_18_code
theorem d_M_hasRead_0 : decode b_M_hasRead 0 = .ok (.iconst 0, 1) := by decide +kernel
theorem d_M_hasRead_1 : decode b_M_hasRead 1 = .ok (.istore_n 3, 1) := by decide +kernel
theorem d_M_hasRead_2 : decode b_M_hasRead 2 = .ok (.iconst 0, 1) := by decide +kernel
theorem d_M_hasRead_3 : decode b_M_hasRead 3 = .ok (.istore 4, 2) := by decide +kernel
theorem d_M_hasRead_5 : decode b_M_hasRead 5 = .ok (.iload 4, 2) := by decide +kernel
theorem d_M_hasRead_7 : decode b_M_hasRead 7 = .ok (.aload_n 0, 1) := by decide +kernel
theorem d_M_hasRead_8 : decode b_M_hasRead 8 = .ok (.getfield 54, 3) := by decide +kernel
theorem d_M_hasRead_11 : decode b_M_hasRead 11 = .ok (.if_icmp .ge 66, 3) := by decide +kernel
theorem d_M_hasRead_14 : decode b_M_hasRead 14 = .ok (.iload_n 3, 1) := by decide +kernel
theorem d_M_hasRead_15 : decode b_M_hasRead 15 = .ok (.ifCond .ne 50, 3) := by decide +kernel
theorem d_M_hasRead_18 : decode b_M_hasRead 18 = .ok (.aload_n 0, 1) := by decide +kernel
theorem d_M_hasRead_19 : decode b_M_hasRead 19 = .ok (.getfield 28, 3) := by decide +kernel
theorem d_M_hasRead_22 : decode b_M_hasRead 22 = .ok (.iload 4, 2) := by decide +kernel
theorem d_M_hasRead_24 : decode b_M_hasRead 24 = .ok (.baload, 1) := by decide +kernel
theorem d_M_hasRead_25 : decode b_M_hasRead 25 = .ok (.ifCond .ne 44, 3) := by decide +kernel
theorem d_M_hasRead_28 : decode b_M_hasRead 28 = .ok (.aload_n 0, 1) := by decide +kernel
theorem d_M_hasRead_29 : decode b_M_hasRead 29 = .ok (.getfield 19, 3) := by decide +kernel
theorem d_M_hasRead_32 : decode b_M_hasRead 32 = .ok (.iload 4, 2) := by decide +kernel
theorem d_M_hasRead_34 : decode b_M_hasRead 34 = .ok (.iaload, 1) := by decide +kernel
theorem d_M_hasRead_35 : decode b_M_hasRead 35 = .ok (.iload_n 1, 1) := by decide +kernel
theorem d_M_hasRead_36 : decode b_M_hasRead 36 = .ok (.if_icmp .ne 33, 3) := by decide +kernel
theorem d_M_hasRead_39 : decode b_M_hasRead 39 = .ok (.aload_n 0, 1) := by decide +kernel
theorem d_M_hasRead_40 : decode b_M_hasRead 40 = .ok (.getfield 25, 3) := by decide +kernel
theorem d_M_hasRead_43 : decode b_M_hasRead 43 = .ok (.iload 4, 2) := by decide +kernel
theorem d_M_hasRead_45 : decode b_M_hasRead 45 = .ok (.iaload, 1) := by decide +kernel
theorem d_M_hasRead_46 : decode b_M_hasRead 46 = .ok (.ifCond .lt 23, 3) := by decide +kernel
theorem d_M_hasRead_49 : decode b_M_hasRead 49 = .ok (.aload_n 0, 1) := by decide +kernel
theorem d_M_hasRead_50 : decode b_M_hasRead 50 = .ok (.getfield 13, 3) := by decide +kernel
theorem d_M_hasRead_53 : decode b_M_hasRead 53 = .ok (.aload_n 0, 1) := by decide +kernel
theorem d_M_hasRead_54 : decode b_M_hasRead 54 = .ok (.getfield 25, 3) := by decide +kernel
theorem d_M_hasRead_57 : decode b_M_hasRead 57 = .ok (.iload 4, 2) := by decide +kernel
theorem d_M_hasRead_59 : decode b_M_hasRead 59 = .ok (.iaload, 1) := by decide +kernel
theorem d_M_hasRead_60 : decode b_M_hasRead 60 = .ok (.iaload, 1) := by decide +kernel
theorem d_M_hasRead_61 : decode b_M_hasRead 61 = .ok (.iload_n 2, 1) := by decide +kernel
theorem d_M_hasRead_62 : decode b_M_hasRead 62 = .ok (.if_icmp .ne 7, 3) := by decide +kernel
theorem d_M_hasRead_65 : decode b_M_hasRead 65 = .ok (.iconst 1, 1) := by decide +kernel
theorem d_M_hasRead_66 : decode b_M_hasRead 66 = .ok (.goto 4, 3) := by decide +kernel
theorem d_M_hasRead_69 : decode b_M_hasRead 69 = .ok (.iconst 0, 1) := by decide +kernel
theorem d_M_hasRead_70 : decode b_M_hasRead 70 = .ok (.istore_n 3, 1) := by decide +kernel
theorem d_M_hasRead_71 : decode b_M_hasRead 71 = .ok (.iinc 4 1, 3) := by decide +kernel
theorem d_M_hasRead_74 : decode b_M_hasRead 74 = .ok (.goto (-69), 3) := by decide +kernel
theorem d_M_hasRead_77 : decode b_M_hasRead 77 = .ok (.iload_n 3, 1) := by decide +kernel
theorem d_M_hasRead_78 : decode b_M_hasRead 78 = .ok (.ireturn, 1) := by decide +kernel
abbrev y_M_inRow : MethodName := ⟨"HistoryJudgeModel", "inRow", "(II)Z"⟩
abbrev b_M_inRow : ByteArray := prog_7_method_24_code
theorem d_M_inRow_0 : decode b_M_inRow 0 = .ok (.iconst 0, 1) := by decide +kernel
theorem d_M_inRow_1 : decode b_M_inRow 1 = .ok (.istore_n 3, 1) := by decide +kernel
theorem d_M_inRow_2 : decode b_M_inRow 2 = .ok (.iconst 0, 1) := by decide +kernel
theorem d_M_inRow_3 : decode b_M_inRow 3 = .ok (.istore 4, 2) := by decide +kernel
theorem d_M_inRow_5 : decode b_M_inRow 5 = .ok (.iload 4, 2) := by decide +kernel
theorem d_M_inRow_7 : decode b_M_inRow 7 = .ok (.iload_n 2, 1) := by decide +kernel
theorem d_M_inRow_8 : decode b_M_inRow 8 = .ok (.if_icmp .ge 30, 3) := by decide +kernel
theorem d_M_inRow_11 : decode b_M_inRow 11 = .ok (.iload_n 3, 1) := by decide +kernel
theorem d_M_inRow_12 : decode b_M_inRow 12 = .ok (.ifCond .ne 14, 3) := by decide +kernel
theorem d_M_inRow_15 : decode b_M_inRow 15 = .ok (.aload_n 0, 1) := by decide +kernel
theorem d_M_inRow_16 : decode b_M_inRow 16 = .ok (.getfield 41, 3) := by decide +kernel
theorem d_M_inRow_19 : decode b_M_inRow 19 = .ok (.iload 4, 2) := by decide +kernel
theorem d_M_inRow_21 : decode b_M_inRow 21 = .ok (.iaload, 1) := by decide +kernel
theorem d_M_inRow_22 : decode b_M_inRow 22 = .ok (.iload_n 1, 1) := by decide +kernel
theorem d_M_inRow_23 : decode b_M_inRow 23 = .ok (.if_icmp .ne 7, 3) := by decide +kernel
theorem d_M_inRow_26 : decode b_M_inRow 26 = .ok (.iconst 1, 1) := by decide +kernel
theorem d_M_inRow_27 : decode b_M_inRow 27 = .ok (.goto 4, 3) := by decide +kernel
theorem d_M_inRow_30 : decode b_M_inRow 30 = .ok (.iconst 0, 1) := by decide +kernel
theorem d_M_inRow_31 : decode b_M_inRow 31 = .ok (.istore_n 3, 1) := by decide +kernel
theorem d_M_inRow_32 : decode b_M_inRow 32 = .ok (.iinc 4 1, 3) := by decide +kernel
theorem d_M_inRow_35 : decode b_M_inRow 35 = .ok (.goto (-30), 3) := by decide +kernel
theorem d_M_inRow_38 : decode b_M_inRow 38 = .ok (.iload_n 3, 1) := by decide +kernel
theorem d_M_inRow_39 : decode b_M_inRow 39 = .ok (.ireturn, 1) := by decide +kernel
abbrev y_M_init : MethodName := ⟨"HistoryJudgeModel", "<init>", "()V"⟩
abbrev b_M_init : ByteArray := prog_7_method_1_code
theorem d_M_init_0 : decode b_M_init 0 = .ok (.aload_n 0, 1) := by decide +kernel
theorem d_M_init_1 : decode b_M_init 1 = .ok (.invokespecial 1, 3) := by decide +kernel
theorem d_M_init_4 : decode b_M_init 4 = .ok (.aload_n 0, 1) := by decide +kernel
theorem d_M_init_5 : decode b_M_init 5 = .ok (.bipush 8, 2) := by decide +kernel
theorem d_M_init_7 : decode b_M_init 7 = .ok (.newarray .int, 2) := by decide +kernel
theorem d_M_init_9 : decode b_M_init 9 = .ok (.putfield 7, 3) := by decide +kernel
theorem d_M_init_12 : decode b_M_init 12 = .ok (.aload_n 0, 1) := by decide +kernel
theorem d_M_init_13 : decode b_M_init 13 = .ok (.bipush 40, 2) := by decide +kernel
theorem d_M_init_15 : decode b_M_init 15 = .ok (.newarray .int, 2) := by decide +kernel
theorem d_M_init_17 : decode b_M_init 17 = .ok (.putfield 13, 3) := by decide +kernel
theorem d_M_init_20 : decode b_M_init 20 = .ok (.aload_n 0, 1) := by decide +kernel
theorem d_M_init_21 : decode b_M_init 21 = .ok (.bipush 40, 2) := by decide +kernel
theorem d_M_init_23 : decode b_M_init 23 = .ok (.newarray .int, 2) := by decide +kernel
theorem d_M_init_25 : decode b_M_init 25 = .ok (.putfield 16, 3) := by decide +kernel
theorem d_M_init_28 : decode b_M_init 28 = .ok (.aload_n 0, 1) := by decide +kernel
theorem d_M_init_29 : decode b_M_init 29 = .ok (.bipush 100, 2) := by decide +kernel
theorem d_M_init_31 : decode b_M_init 31 = .ok (.newarray .int, 2) := by decide +kernel
theorem d_M_init_33 : decode b_M_init 33 = .ok (.putfield 19, 3) := by decide +kernel
theorem d_M_init_36 : decode b_M_init 36 = .ok (.aload_n 0, 1) := by decide +kernel
theorem d_M_init_37 : decode b_M_init 37 = .ok (.bipush 100, 2) := by decide +kernel
theorem d_M_init_39 : decode b_M_init 39 = .ok (.newarray .int, 2) := by decide +kernel
theorem d_M_init_41 : decode b_M_init 41 = .ok (.putfield 22, 3) := by decide +kernel
theorem d_M_init_44 : decode b_M_init 44 = .ok (.aload_n 0, 1) := by decide +kernel
theorem d_M_init_45 : decode b_M_init 45 = .ok (.bipush 100, 2) := by decide +kernel
theorem d_M_init_47 : decode b_M_init 47 = .ok (.newarray .int, 2) := by decide +kernel
theorem d_M_init_49 : decode b_M_init 49 = .ok (.putfield 25, 3) := by decide +kernel
theorem d_M_init_52 : decode b_M_init 52 = .ok (.aload_n 0, 1) := by decide +kernel
theorem d_M_init_53 : decode b_M_init 53 = .ok (.bipush 100, 2) := by decide +kernel
theorem d_M_init_55 : decode b_M_init 55 = .ok (.newarray .boolean, 2) := by decide +kernel
theorem d_M_init_57 : decode b_M_init 57 = .ok (.putfield 28, 3) := by decide +kernel
theorem d_M_init_60 : decode b_M_init 60 = .ok (.aload_n 0, 1) := by decide +kernel
theorem d_M_init_61 : decode b_M_init 61 = .ok (.bipush 6, 2) := by decide +kernel
theorem d_M_init_63 : decode b_M_init 63 = .ok (.newarray .int, 2) := by decide +kernel
theorem d_M_init_65 : decode b_M_init 65 = .ok (.putfield 32, 3) := by decide +kernel
theorem d_M_init_68 : decode b_M_init 68 = .ok (.aload_n 0, 1) := by decide +kernel
theorem d_M_init_69 : decode b_M_init 69 = .ok (.bipush 48, 2) := by decide +kernel
theorem d_M_init_71 : decode b_M_init 71 = .ok (.newarray .int, 2) := by decide +kernel
theorem d_M_init_73 : decode b_M_init 73 = .ok (.putfield 35, 3) := by decide +kernel
theorem d_M_init_76 : decode b_M_init 76 = .ok (.aload_n 0, 1) := by decide +kernel
theorem d_M_init_77 : decode b_M_init 77 = .ok (.bipush 64, 2) := by decide +kernel
theorem d_M_init_79 : decode b_M_init 79 = .ok (.newarray .int, 2) := by decide +kernel
theorem d_M_init_81 : decode b_M_init 81 = .ok (.putfield 38, 3) := by decide +kernel
theorem d_M_init_84 : decode b_M_init 84 = .ok (.aload_n 0, 1) := by decide +kernel
theorem d_M_init_85 : decode b_M_init 85 = .ok (.bipush 9, 2) := by decide +kernel
theorem d_M_init_87 : decode b_M_init 87 = .ok (.newarray .int, 2) := by decide +kernel
theorem d_M_init_89 : decode b_M_init 89 = .ok (.putfield 41, 3) := by decide +kernel
theorem d_M_init_92 : decode b_M_init 92 = .ok (.aload_n 0, 1) := by decide +kernel
theorem d_M_init_93 : decode b_M_init 93 = .ok (.bipush 9, 2) := by decide +kernel
theorem d_M_init_95 : decode b_M_init 95 = .ok (.newarray .int, 2) := by decide +kernel
theorem d_M_init_97 : decode b_M_init 97 = .ok (.putfield 44, 3) := by decide +kernel
theorem d_M_init_100 : decode b_M_init 100 = .ok (.aload_n 0, 1) := by decide +kernel
theorem d_M_init_101 : decode b_M_init 101 = .ok (.bipush 54, 2) := by decide +kernel
theorem d_M_init_103 : decode b_M_init 103 = .ok (.newarray .int, 2) := by decide +kernel
theorem d_M_init_105 : decode b_M_init 105 = .ok (.putfield 47, 3) := by decide +kernel
theorem d_M_init_108 : decode b_M_init 108 = .ok (.return_, 1) := by decide +kernel
abbrev y_M_isCommitted : MethodName := ⟨"HistoryJudgeModel", "isCommitted", "(I)Z"⟩
abbrev b_M_isCommitted : ByteArray := prog_7_method_15_code
theorem d_M_isCommitted_0 : decode b_M_isCommitted 0 = .ok (.aload_n 0, 1) := by decide +kernel
theorem d_M_isCommitted_1 : decode b_M_isCommitted 1 = .ok (.getfield 7, 3) := by decide +kernel
theorem d_M_isCommitted_4 : decode b_M_isCommitted 4 = .ok (.iload_n 1, 1) := by decide +kernel
theorem d_M_isCommitted_5 : decode b_M_isCommitted 5 = .ok (.iaload, 1) := by decide +kernel
theorem d_M_isCommitted_6 : decode b_M_isCommitted 6 = .ok (.iconst 2, 1) := by decide +kernel
theorem d_M_isCommitted_7 : decode b_M_isCommitted 7 = .ok (.if_icmp .ne 7, 3) := by decide +kernel
theorem d_M_isCommitted_10 : decode b_M_isCommitted 10 = .ok (.iconst 1, 1) := by decide +kernel
theorem d_M_isCommitted_11 : decode b_M_isCommitted 11 = .ok (.goto 4, 3) := by decide +kernel
theorem d_M_isCommitted_14 : decode b_M_isCommitted 14 = .ok (.iconst 0, 1) := by decide +kernel
theorem d_M_isCommitted_15 : decode b_M_isCommitted 15 = .ok (.ireturn, 1) := by decide +kernel
abbrev y_M_isFinal : MethodName := ⟨"HistoryJudgeModel", "isFinal", "(I)Z"⟩
abbrev b_M_isFinal : ByteArray := prog_7_method_9_code
theorem d_M_isFinal_0 : decode b_M_isFinal 0 = .ok (.iconst 1, 1) := by decide +kernel
theorem d_M_isFinal_1 : decode b_M_isFinal 1 = .ok (.istore_n 2, 1) := by decide +kernel
theorem d_M_isFinal_2 : decode b_M_isFinal 2 = .ok (.iload_n 1, 1) := by decide +kernel
theorem d_M_isFinal_3 : decode b_M_isFinal 3 = .ok (.iconst 1, 1) := by decide +kernel
theorem d_M_isFinal_4 : decode b_M_isFinal 4 = .ok (.iadd, 1) := by decide +kernel
theorem d_M_isFinal_5 : decode b_M_isFinal 5 = .ok (.istore_n 3, 1) := by decide +kernel
theorem d_M_isFinal_6 : decode b_M_isFinal 6 = .ok (.iload_n 3, 1) := by decide +kernel
theorem d_M_isFinal_7 : decode b_M_isFinal 7 = .ok (.aload_n 0, 1) := by decide +kernel
theorem d_M_isFinal_8 : decode b_M_isFinal 8 = .ok (.getfield 64, 3) := by decide +kernel
theorem d_M_isFinal_11 : decode b_M_isFinal 11 = .ok (.if_icmp .ge 49, 3) := by decide +kernel
theorem d_M_isFinal_14 : decode b_M_isFinal 14 = .ok (.iload_n 2, 1) := by decide +kernel
theorem d_M_isFinal_15 : decode b_M_isFinal 15 = .ok (.ifCond .eq 37, 3) := by decide +kernel
theorem d_M_isFinal_18 : decode b_M_isFinal 18 = .ok (.aload_n 0, 1) := by decide +kernel
theorem d_M_isFinal_19 : decode b_M_isFinal 19 = .ok (.getfield 13, 3) := by decide +kernel
theorem d_M_isFinal_22 : decode b_M_isFinal 22 = .ok (.iload_n 3, 1) := by decide +kernel
theorem d_M_isFinal_23 : decode b_M_isFinal 23 = .ok (.iaload, 1) := by decide +kernel
theorem d_M_isFinal_24 : decode b_M_isFinal 24 = .ok (.aload_n 0, 1) := by decide +kernel
theorem d_M_isFinal_25 : decode b_M_isFinal 25 = .ok (.getfield 13, 3) := by decide +kernel
theorem d_M_isFinal_28 : decode b_M_isFinal 28 = .ok (.iload_n 1, 1) := by decide +kernel
theorem d_M_isFinal_29 : decode b_M_isFinal 29 = .ok (.iaload, 1) := by decide +kernel
theorem d_M_isFinal_30 : decode b_M_isFinal 30 = .ok (.if_icmp .ne 18, 3) := by decide +kernel
theorem d_M_isFinal_33 : decode b_M_isFinal 33 = .ok (.aload_n 0, 1) := by decide +kernel
theorem d_M_isFinal_34 : decode b_M_isFinal 34 = .ok (.getfield 16, 3) := by decide +kernel
theorem d_M_isFinal_37 : decode b_M_isFinal 37 = .ok (.iload_n 3, 1) := by decide +kernel
theorem d_M_isFinal_38 : decode b_M_isFinal 38 = .ok (.iaload, 1) := by decide +kernel
theorem d_M_isFinal_39 : decode b_M_isFinal 39 = .ok (.aload_n 0, 1) := by decide +kernel
theorem d_M_isFinal_40 : decode b_M_isFinal 40 = .ok (.getfield 16, 3) := by decide +kernel
theorem d_M_isFinal_43 : decode b_M_isFinal 43 = .ok (.iload_n 1, 1) := by decide +kernel
theorem d_M_isFinal_44 : decode b_M_isFinal 44 = .ok (.iaload, 1) := by decide +kernel
theorem d_M_isFinal_45 : decode b_M_isFinal 45 = .ok (.if_icmp .eq 7, 3) := by decide +kernel
theorem d_M_isFinal_48 : decode b_M_isFinal 48 = .ok (.iconst 1, 1) := by decide +kernel
theorem d_M_isFinal_49 : decode b_M_isFinal 49 = .ok (.goto 4, 3) := by decide +kernel
theorem d_M_isFinal_52 : decode b_M_isFinal 52 = .ok (.iconst 0, 1) := by decide +kernel
theorem d_M_isFinal_53 : decode b_M_isFinal 53 = .ok (.istore_n 2, 1) := by decide +kernel
theorem d_M_isFinal_54 : decode b_M_isFinal 54 = .ok (.iinc 3 1, 3) := by decide +kernel
theorem d_M_isFinal_57 : decode b_M_isFinal 57 = .ok (.goto (-51), 3) := by decide +kernel
theorem d_M_isFinal_60 : decode b_M_isFinal 60 = .ok (.iload_n 2, 1) := by decide +kernel
theorem d_M_isFinal_61 : decode b_M_isFinal 61 = .ok (.ireturn, 1) := by decide +kernel
abbrev y_M_isItem : MethodName := ⟨"HistoryJudgeModel", "isItem", "(I)Z"⟩
abbrev b_M_isItem : ByteArray := prog_7_method_3_code
theorem d_M_isItem_0 : decode b_M_isItem 0 = .ok (.iload_n 0, 1) := by decide +kernel
theorem d_M_isItem_1 : decode b_M_isItem 1 = .ok (.ifCond .lt 13, 3) := by decide +kernel
theorem d_M_isItem_4 : decode b_M_isItem 4 = .ok (.iload_n 0, 1) := by decide +kernel
theorem d_M_isItem_5 : decode b_M_isItem 5 = .ok (.bipush 6, 2) := by decide +kernel
theorem d_M_isItem_7 : decode b_M_isItem 7 = .ok (.if_icmp .ge 7, 3) := by decide +kernel
theorem d_M_isItem_10 : decode b_M_isItem 10 = .ok (.iconst 1, 1) := by decide +kernel
theorem d_M_isItem_11 : decode b_M_isItem 11 = .ok (.goto 4, 3) := by decide +kernel
theorem d_M_isItem_14 : decode b_M_isItem 14 = .ok (.iconst 0, 1) := by decide +kernel
theorem d_M_isItem_15 : decode b_M_isItem 15 = .ok (.ireturn, 1) := by decide +kernel
abbrev y_M_isOne : MethodName := ⟨"HistoryJudgeModel", "isOne", "(I)Z"⟩
abbrev b_M_isOne : ByteArray := prog_7_method_4_code
theorem d_M_isOne_0 : decode b_M_isOne 0 = .ok (.iload_n 0, 1) := by decide +kernel
theorem d_M_isOne_1 : decode b_M_isOne 1 = .ok (.ifCond .lt 13, 3) := by decide +kernel
theorem d_M_isOne_4 : decode b_M_isOne 4 = .ok (.iload_n 0, 1) := by decide +kernel
theorem d_M_isOne_5 : decode b_M_isOne 5 = .ok (.bipush 8, 2) := by decide +kernel
theorem d_M_isOne_7 : decode b_M_isOne 7 = .ok (.if_icmp .ge 7, 3) := by decide +kernel
theorem d_M_isOne_10 : decode b_M_isOne 10 = .ok (.iconst 1, 1) := by decide +kernel
theorem d_M_isOne_11 : decode b_M_isOne 11 = .ok (.goto 4, 3) := by decide +kernel
theorem d_M_isOne_14 : decode b_M_isOne 14 = .ok (.iconst 0, 1) := by decide +kernel
theorem d_M_isOne_15 : decode b_M_isOne 15 = .ok (.ireturn, 1) := by decide +kernel
abbrev y_M_isVersion : MethodName := ⟨"HistoryJudgeModel", "isVersion", "(II)Z"⟩
abbrev b_M_isVersion : ByteArray := prog_7_method_7_code
theorem d_M_isVersion_0 : decode b_M_isVersion 0 = .ok (.iload_n 2, 1) := by decide +kernel
theorem d_M_isVersion_1 : decode b_M_isVersion 1 = .ok (.iconst (-1), 1) := by decide +kernel
theorem d_M_isVersion_2 : decode b_M_isVersion 2 = .ok (.if_icmp .eq 25, 3) := by decide +kernel
theorem d_M_isVersion_5 : decode b_M_isVersion 5 = .ok (.iload_n 2, 1) := by decide +kernel
theorem d_M_isVersion_6 : decode b_M_isVersion 6 = .ok (.ifCond .lt 25, 3) := by decide +kernel
theorem d_M_isVersion_9 : decode b_M_isVersion 9 = .ok (.iload_n 2, 1) := by decide +kernel
theorem d_M_isVersion_10 : decode b_M_isVersion 10 = .ok (.aload_n 0, 1) := by decide +kernel
theorem d_M_isVersion_11 : decode b_M_isVersion 11 = .ok (.getfield 64, 3) := by decide +kernel
theorem d_M_isVersion_14 : decode b_M_isVersion 14 = .ok (.if_icmp .ge 17, 3) := by decide +kernel
theorem d_M_isVersion_17 : decode b_M_isVersion 17 = .ok (.aload_n 0, 1) := by decide +kernel
theorem d_M_isVersion_18 : decode b_M_isVersion 18 = .ok (.getfield 16, 3) := by decide +kernel
theorem d_M_isVersion_21 : decode b_M_isVersion 21 = .ok (.iload_n 2, 1) := by decide +kernel
theorem d_M_isVersion_22 : decode b_M_isVersion 22 = .ok (.iaload, 1) := by decide +kernel
theorem d_M_isVersion_23 : decode b_M_isVersion 23 = .ok (.iload_n 1, 1) := by decide +kernel
theorem d_M_isVersion_24 : decode b_M_isVersion 24 = .ok (.if_icmp .ne 7, 3) := by decide +kernel
theorem d_M_isVersion_27 : decode b_M_isVersion 27 = .ok (.iconst 1, 1) := by decide +kernel
theorem d_M_isVersion_28 : decode b_M_isVersion 28 = .ok (.goto 4, 3) := by decide +kernel
theorem d_M_isVersion_31 : decode b_M_isVersion 31 = .ok (.iconst 0, 1) := by decide +kernel
theorem d_M_isVersion_32 : decode b_M_isVersion 32 = .ok (.ireturn, 1) := by decide +kernel
abbrev y_M_level : MethodName := ⟨"HistoryJudgeModel", "level", "()I"⟩
abbrev b_M_level : ByteArray := prog_7_method_34_code
theorem d_M_level_0 : decode b_M_level 0 = .ok (.aload_n 0, 1) := by decide +kernel
theorem d_M_level_1 : decode b_M_level 1 = .ok (.iconst 0, 1) := by decide +kernel
theorem d_M_level_2 : decode b_M_level 2 = .ok (.putfield 50, 3) := by decide +kernel
theorem d_M_level_5 : decode b_M_level 5 = .ok (.aload_n 0, 1) := by decide +kernel
theorem d_M_level_6 : decode b_M_level 6 = .ok (.invokevirtual 127, 3) := by decide +kernel
theorem d_M_level_9 : decode b_M_level 9 = .ok (.istore_n 1, 1) := by decide +kernel
theorem d_M_level_10 : decode b_M_level 10 = .ok (.iload_n 1, 1) := by decide +kernel
theorem d_M_level_11 : decode b_M_level 11 = .ok (.iconst 1, 1) := by decide +kernel
theorem d_M_level_12 : decode b_M_level 12 = .ok (.iand, 1) := by decide +kernel
theorem d_M_level_13 : decode b_M_level 13 = .ok (.ifCond .eq 7, 3) := by decide +kernel
theorem d_M_level_16 : decode b_M_level 16 = .ok (.iconst 0, 1) := by decide +kernel
theorem d_M_level_17 : decode b_M_level 17 = .ok (.goto 37, 3) := by decide +kernel
theorem d_M_level_20 : decode b_M_level 20 = .ok (.iload_n 1, 1) := by decide +kernel
theorem d_M_level_21 : decode b_M_level 21 = .ok (.bipush 14, 2) := by decide +kernel
theorem d_M_level_23 : decode b_M_level 23 = .ok (.iand, 1) := by decide +kernel
theorem d_M_level_24 : decode b_M_level 24 = .ok (.ifCond .eq 7, 3) := by decide +kernel
theorem d_M_level_27 : decode b_M_level 27 = .ok (.iconst 1, 1) := by decide +kernel
theorem d_M_level_28 : decode b_M_level 28 = .ok (.goto 26, 3) := by decide +kernel
theorem d_M_level_31 : decode b_M_level 31 = .ok (.iload_n 1, 1) := by decide +kernel
theorem d_M_level_32 : decode b_M_level 32 = .ok (.bipush 16, 2) := by decide +kernel
theorem d_M_level_34 : decode b_M_level 34 = .ok (.iand, 1) := by decide +kernel
theorem d_M_level_35 : decode b_M_level 35 = .ok (.ifCond .eq 7, 3) := by decide +kernel
theorem d_M_level_38 : decode b_M_level 38 = .ok (.iconst 2, 1) := by decide +kernel
theorem d_M_level_39 : decode b_M_level 39 = .ok (.goto 15, 3) := by decide +kernel
theorem d_M_level_42 : decode b_M_level 42 = .ok (.iload_n 1, 1) := by decide +kernel
theorem d_M_level_43 : decode b_M_level 43 = .ok (.bipush 32, 2) := by decide +kernel
theorem d_M_level_45 : decode b_M_level 45 = .ok (.iand, 1) := by decide +kernel
theorem d_M_level_46 : decode b_M_level 46 = .ok (.ifCond .eq 7, 3) := by decide +kernel
theorem d_M_level_49 : decode b_M_level 49 = .ok (.iconst 3, 1) := by decide +kernel
theorem d_M_level_50 : decode b_M_level 50 = .ok (.goto 4, 3) := by decide +kernel
theorem d_M_level_53 : decode b_M_level 53 = .ok (.iconst 4, 1) := by decide +kernel
theorem d_M_level_54 : decode b_M_level 54 = .ok (.ireturn, 1) := by decide +kernel
abbrev y_M_mask : MethodName := ⟨"HistoryJudgeModel", "mask", "(I)I"⟩
abbrev b_M_mask : ByteArray := prog_7_method_23_code
theorem d_M_mask_0 : decode b_M_mask 0 = .ok (.iload_n 0, 1) := by decide +kernel
theorem d_M_mask_1 : decode b_M_mask 1 = .ok (.ifCond .ne 7, 3) := by decide +kernel
theorem d_M_mask_4 : decode b_M_mask 4 = .ok (.iconst 1, 1) := by decide +kernel
theorem d_M_mask_5 : decode b_M_mask 5 = .ok (.goto 14, 3) := by decide +kernel
theorem d_M_mask_8 : decode b_M_mask 8 = .ok (.iload_n 0, 1) := by decide +kernel
theorem d_M_mask_9 : decode b_M_mask 9 = .ok (.iconst 1, 1) := by decide +kernel
theorem d_M_mask_10 : decode b_M_mask 10 = .ok (.if_icmp .ne 7, 3) := by decide +kernel
theorem d_M_mask_13 : decode b_M_mask 13 = .ok (.iconst 3, 1) := by decide +kernel
theorem d_M_mask_14 : decode b_M_mask 14 = .ok (.goto 5, 3) := by decide +kernel
theorem d_M_mask_17 : decode b_M_mask 17 = .ok (.bipush 7, 2) := by decide +kernel
theorem d_M_mask_19 : decode b_M_mask 19 = .ok (.ireturn, 1) := by decide +kernel
abbrev y_M_nextOf : MethodName := ⟨"HistoryJudgeModel", "nextOf", "(II)I"⟩
abbrev b_M_nextOf : ByteArray := prog_7_method_16_code
theorem d_M_nextOf_0 : decode b_M_nextOf 0 = .ok (.iload_n 2, 1) := by decide +kernel
theorem d_M_nextOf_1 : decode b_M_nextOf 1 = .ok (.iconst (-1), 1) := by decide +kernel
theorem d_M_nextOf_2 : decode b_M_nextOf 2 = .ok (.if_icmp .ne 24, 3) := by decide +kernel
theorem d_M_nextOf_5 : decode b_M_nextOf 5 = .ok (.aload_n 0, 1) := by decide +kernel
theorem d_M_nextOf_6 : decode b_M_nextOf 6 = .ok (.getfield 32, 3) := by decide +kernel
theorem d_M_nextOf_9 : decode b_M_nextOf 9 = .ok (.iload_n 1, 1) := by decide +kernel
theorem d_M_nextOf_10 : decode b_M_nextOf 10 = .ok (.iaload, 1) := by decide +kernel
theorem d_M_nextOf_11 : decode b_M_nextOf 11 = .ok (.ifCond .le 15, 3) := by decide +kernel
theorem d_M_nextOf_14 : decode b_M_nextOf 14 = .ok (.aload_n 0, 1) := by decide +kernel
theorem d_M_nextOf_15 : decode b_M_nextOf 15 = .ok (.getfield 35, 3) := by decide +kernel
theorem d_M_nextOf_18 : decode b_M_nextOf 18 = .ok (.bipush 8, 2) := by decide +kernel
theorem d_M_nextOf_20 : decode b_M_nextOf 20 = .ok (.iload_n 1, 1) := by decide +kernel
theorem d_M_nextOf_21 : decode b_M_nextOf 21 = .ok (.imul, 1) := by decide +kernel
theorem d_M_nextOf_22 : decode b_M_nextOf 22 = .ok (.iaload, 1) := by decide +kernel
theorem d_M_nextOf_23 : decode b_M_nextOf 23 = .ok (.goto 4, 3) := by decide +kernel
theorem d_M_nextOf_26 : decode b_M_nextOf 26 = .ok (.iconst (-1), 1) := by decide +kernel
theorem d_M_nextOf_27 : decode b_M_nextOf 27 = .ok (.istore_n 3, 1) := by decide +kernel
theorem d_M_nextOf_28 : decode b_M_nextOf 28 = .ok (.iconst 0, 1) := by decide +kernel
theorem d_M_nextOf_29 : decode b_M_nextOf 29 = .ok (.istore 4, 2) := by decide +kernel
theorem d_M_nextOf_31 : decode b_M_nextOf 31 = .ok (.iload 4, 2) := by decide +kernel
theorem d_M_nextOf_33 : decode b_M_nextOf 33 = .ok (.iconst 1, 1) := by decide +kernel
theorem d_M_nextOf_34 : decode b_M_nextOf 34 = .ok (.iadd, 1) := by decide +kernel
theorem d_M_nextOf_35 : decode b_M_nextOf 35 = .ok (.aload_n 0, 1) := by decide +kernel
theorem d_M_nextOf_36 : decode b_M_nextOf 36 = .ok (.getfield 32, 3) := by decide +kernel
theorem d_M_nextOf_39 : decode b_M_nextOf 39 = .ok (.iload_n 1, 1) := by decide +kernel
theorem d_M_nextOf_40 : decode b_M_nextOf 40 = .ok (.iaload, 1) := by decide +kernel
theorem d_M_nextOf_41 : decode b_M_nextOf 41 = .ok (.if_icmp .ge 48, 3) := by decide +kernel
theorem d_M_nextOf_44 : decode b_M_nextOf 44 = .ok (.iload_n 2, 1) := by decide +kernel
theorem d_M_nextOf_45 : decode b_M_nextOf 45 = .ok (.ifCond .lt 36, 3) := by decide +kernel
theorem d_M_nextOf_48 : decode b_M_nextOf 48 = .ok (.aload_n 0, 1) := by decide +kernel
theorem d_M_nextOf_49 : decode b_M_nextOf 49 = .ok (.getfield 35, 3) := by decide +kernel
theorem d_M_nextOf_52 : decode b_M_nextOf 52 = .ok (.bipush 8, 2) := by decide +kernel
theorem d_M_nextOf_54 : decode b_M_nextOf 54 = .ok (.iload_n 1, 1) := by decide +kernel
theorem d_M_nextOf_55 : decode b_M_nextOf 55 = .ok (.imul, 1) := by decide +kernel
theorem d_M_nextOf_56 : decode b_M_nextOf 56 = .ok (.iload 4, 2) := by decide +kernel
theorem d_M_nextOf_58 : decode b_M_nextOf 58 = .ok (.iadd, 1) := by decide +kernel
theorem d_M_nextOf_59 : decode b_M_nextOf 59 = .ok (.iaload, 1) := by decide +kernel
theorem d_M_nextOf_60 : decode b_M_nextOf 60 = .ok (.iload_n 2, 1) := by decide +kernel
theorem d_M_nextOf_61 : decode b_M_nextOf 61 = .ok (.if_icmp .ne 20, 3) := by decide +kernel
theorem d_M_nextOf_64 : decode b_M_nextOf 64 = .ok (.aload_n 0, 1) := by decide +kernel
theorem d_M_nextOf_65 : decode b_M_nextOf 65 = .ok (.getfield 35, 3) := by decide +kernel
theorem d_M_nextOf_68 : decode b_M_nextOf 68 = .ok (.bipush 8, 2) := by decide +kernel
theorem d_M_nextOf_70 : decode b_M_nextOf 70 = .ok (.iload_n 1, 1) := by decide +kernel
theorem d_M_nextOf_71 : decode b_M_nextOf 71 = .ok (.imul, 1) := by decide +kernel
theorem d_M_nextOf_72 : decode b_M_nextOf 72 = .ok (.iload 4, 2) := by decide +kernel
theorem d_M_nextOf_74 : decode b_M_nextOf 74 = .ok (.iadd, 1) := by decide +kernel
theorem d_M_nextOf_75 : decode b_M_nextOf 75 = .ok (.iconst 1, 1) := by decide +kernel
theorem d_M_nextOf_76 : decode b_M_nextOf 76 = .ok (.iadd, 1) := by decide +kernel
theorem d_M_nextOf_77 : decode b_M_nextOf 77 = .ok (.iaload, 1) := by decide +kernel
theorem d_M_nextOf_78 : decode b_M_nextOf 78 = .ok (.goto 4, 3) := by decide +kernel
theorem d_M_nextOf_81 : decode b_M_nextOf 81 = .ok (.iload_n 3, 1) := by decide +kernel
theorem d_M_nextOf_82 : decode b_M_nextOf 82 = .ok (.istore_n 3, 1) := by decide +kernel
theorem d_M_nextOf_83 : decode b_M_nextOf 83 = .ok (.iinc 4 1, 3) := by decide +kernel
theorem d_M_nextOf_86 : decode b_M_nextOf 86 = .ok (.goto (-55), 3) := by decide +kernel
theorem d_M_nextOf_89 : decode b_M_nextOf 89 = .ok (.iload_n 3, 1) := by decide +kernel
theorem d_M_nextOf_90 : decode b_M_nextOf 90 = .ok (.ireturn, 1) := by decide +kernel
abbrev y_M_note : MethodName := ⟨"HistoryJudgeModel", "note", "(IIIZ)V"⟩
abbrev b_M_note : ByteArray := prog_7_method_5_code
theorem d_M_note_0 : decode b_M_note 0 = .ok (.aload_n 0, 1) := by decide +kernel
theorem d_M_note_1 : decode b_M_note 1 = .ok (.getfield 19, 3) := by decide +kernel
theorem d_M_note_4 : decode b_M_note 4 = .ok (.aload_n 0, 1) := by decide +kernel
theorem d_M_note_5 : decode b_M_note 5 = .ok (.getfield 54, 3) := by decide +kernel
theorem d_M_note_8 : decode b_M_note 8 = .ok (.iload_n 1, 1) := by decide +kernel
theorem d_M_note_9 : decode b_M_note 9 = .ok (.iastore, 1) := by decide +kernel
theorem d_M_note_10 : decode b_M_note 10 = .ok (.aload_n 0, 1) := by decide +kernel
theorem d_M_note_11 : decode b_M_note 11 = .ok (.getfield 22, 3) := by decide +kernel
theorem d_M_note_14 : decode b_M_note 14 = .ok (.aload_n 0, 1) := by decide +kernel
theorem d_M_note_15 : decode b_M_note 15 = .ok (.getfield 54, 3) := by decide +kernel
theorem d_M_note_18 : decode b_M_note 18 = .ok (.iload_n 2, 1) := by decide +kernel
theorem d_M_note_19 : decode b_M_note 19 = .ok (.iastore, 1) := by decide +kernel
theorem d_M_note_20 : decode b_M_note 20 = .ok (.aload_n 0, 1) := by decide +kernel
theorem d_M_note_21 : decode b_M_note 21 = .ok (.getfield 25, 3) := by decide +kernel
theorem d_M_note_24 : decode b_M_note 24 = .ok (.aload_n 0, 1) := by decide +kernel
theorem d_M_note_25 : decode b_M_note 25 = .ok (.getfield 54, 3) := by decide +kernel
theorem d_M_note_28 : decode b_M_note 28 = .ok (.iload_n 3, 1) := by decide +kernel
theorem d_M_note_29 : decode b_M_note 29 = .ok (.iastore, 1) := by decide +kernel
theorem d_M_note_30 : decode b_M_note 30 = .ok (.aload_n 0, 1) := by decide +kernel
theorem d_M_note_31 : decode b_M_note 31 = .ok (.getfield 28, 3) := by decide +kernel
theorem d_M_note_34 : decode b_M_note 34 = .ok (.aload_n 0, 1) := by decide +kernel
theorem d_M_note_35 : decode b_M_note 35 = .ok (.getfield 54, 3) := by decide +kernel
theorem d_M_note_38 : decode b_M_note 38 = .ok (.iload 4, 2) := by decide +kernel
theorem d_M_note_40 : decode b_M_note 40 = .ok (.bastore, 1) := by decide +kernel
theorem d_M_note_41 : decode b_M_note 41 = .ok (.aload_n 0, 1) := by decide +kernel
theorem d_M_note_42 : decode b_M_note 42 = .ok (.aload_n 0, 1) := by decide +kernel
theorem d_M_note_43 : decode b_M_note 43 = .ok (.getfield 54, 3) := by decide +kernel
theorem d_M_note_46 : decode b_M_note 46 = .ok (.iconst 1, 1) := by decide +kernel
theorem d_M_note_47 : decode b_M_note 47 = .ok (.iadd, 1) := by decide +kernel
theorem d_M_note_48 : decode b_M_note 48 = .ok (.putfield 54, 3) := by decide +kernel
theorem d_M_note_51 : decode b_M_note 51 = .ok (.aload_n 0, 1) := by decide +kernel
theorem d_M_note_52 : decode b_M_note 52 = .ok (.getfield 7, 3) := by decide +kernel
theorem d_M_note_55 : decode b_M_note 55 = .ok (.iload_n 1, 1) := by decide +kernel
theorem d_M_note_56 : decode b_M_note 56 = .ok (.iconst 1, 1) := by decide +kernel
theorem d_M_note_57 : decode b_M_note 57 = .ok (.iastore, 1) := by decide +kernel
theorem d_M_note_58 : decode b_M_note 58 = .ok (.return_, 1) := by decide +kernel
abbrev y_M_overtaken : MethodName := ⟨"HistoryJudgeModel", "overtaken", "(II)Z"⟩
abbrev b_M_overtaken : ByteArray := prog_7_method_19_code
theorem d_M_overtaken_0 : decode b_M_overtaken 0 = .ok (.iconst 0, 1) := by decide +kernel
theorem d_M_overtaken_1 : decode b_M_overtaken 1 = .ok (.istore_n 3, 1) := by decide +kernel
theorem d_M_overtaken_2 : decode b_M_overtaken 2 = .ok (.iconst 0, 1) := by decide +kernel
theorem d_M_overtaken_3 : decode b_M_overtaken 3 = .ok (.istore 4, 2) := by decide +kernel
theorem d_M_overtaken_5 : decode b_M_overtaken 5 = .ok (.iload 4, 2) := by decide +kernel
theorem d_M_overtaken_7 : decode b_M_overtaken 7 = .ok (.aload_n 0, 1) := by decide +kernel
theorem d_M_overtaken_8 : decode b_M_overtaken 8 = .ok (.getfield 54, 3) := by decide +kernel
theorem d_M_overtaken_11 : decode b_M_overtaken 11 = .ok (.if_icmp .ge 80, 3) := by decide +kernel
theorem d_M_overtaken_14 : decode b_M_overtaken 14 = .ok (.aload_n 0, 1) := by decide +kernel
theorem d_M_overtaken_15 : decode b_M_overtaken 15 = .ok (.getfield 28, 3) := by decide +kernel
theorem d_M_overtaken_18 : decode b_M_overtaken 18 = .ok (.iload 4, 2) := by decide +kernel
theorem d_M_overtaken_20 : decode b_M_overtaken 20 = .ok (.baload, 1) := by decide +kernel
theorem d_M_overtaken_21 : decode b_M_overtaken 21 = .ok (.ifCond .ne 35, 3) := by decide +kernel
theorem d_M_overtaken_24 : decode b_M_overtaken 24 = .ok (.aload_n 0, 1) := by decide +kernel
theorem d_M_overtaken_25 : decode b_M_overtaken 25 = .ok (.getfield 19, 3) := by decide +kernel
theorem d_M_overtaken_28 : decode b_M_overtaken 28 = .ok (.iload 4, 2) := by decide +kernel
theorem d_M_overtaken_30 : decode b_M_overtaken 30 = .ok (.iaload, 1) := by decide +kernel
theorem d_M_overtaken_31 : decode b_M_overtaken 31 = .ok (.iload_n 1, 1) := by decide +kernel
theorem d_M_overtaken_32 : decode b_M_overtaken 32 = .ok (.if_icmp .ne 24, 3) := by decide +kernel
theorem d_M_overtaken_35 : decode b_M_overtaken 35 = .ok (.aload_n 0, 1) := by decide +kernel
theorem d_M_overtaken_36 : decode b_M_overtaken 36 = .ok (.aload_n 0, 1) := by decide +kernel
theorem d_M_overtaken_37 : decode b_M_overtaken 37 = .ok (.getfield 22, 3) := by decide +kernel
theorem d_M_overtaken_40 : decode b_M_overtaken 40 = .ok (.iload 4, 2) := by decide +kernel
theorem d_M_overtaken_42 : decode b_M_overtaken 42 = .ok (.iaload, 1) := by decide +kernel
theorem d_M_overtaken_43 : decode b_M_overtaken 43 = .ok (.aload_n 0, 1) := by decide +kernel
theorem d_M_overtaken_44 : decode b_M_overtaken 44 = .ok (.getfield 25, 3) := by decide +kernel
theorem d_M_overtaken_47 : decode b_M_overtaken 47 = .ok (.iload 4, 2) := by decide +kernel
theorem d_M_overtaken_49 : decode b_M_overtaken 49 = .ok (.iaload, 1) := by decide +kernel
theorem d_M_overtaken_50 : decode b_M_overtaken 50 = .ok (.invokevirtual 81, 3) := by decide +kernel
theorem d_M_overtaken_53 : decode b_M_overtaken 53 = .ok (.goto 4, 3) := by decide +kernel
theorem d_M_overtaken_56 : decode b_M_overtaken 56 = .ok (.iconst (-1), 1) := by decide +kernel
theorem d_M_overtaken_57 : decode b_M_overtaken 57 = .ok (.istore 5, 2) := by decide +kernel
theorem d_M_overtaken_59 : decode b_M_overtaken 59 = .ok (.iload_n 3, 1) := by decide +kernel
theorem d_M_overtaken_60 : decode b_M_overtaken 60 = .ok (.ifCond .ne 19, 3) := by decide +kernel
theorem d_M_overtaken_63 : decode b_M_overtaken 63 = .ok (.iload 5, 2) := by decide +kernel
theorem d_M_overtaken_65 : decode b_M_overtaken 65 = .ok (.ifCond .lt 18, 3) := by decide +kernel
theorem d_M_overtaken_68 : decode b_M_overtaken 68 = .ok (.aload_n 0, 1) := by decide +kernel
theorem d_M_overtaken_69 : decode b_M_overtaken 69 = .ok (.getfield 13, 3) := by decide +kernel
theorem d_M_overtaken_72 : decode b_M_overtaken 72 = .ok (.iload 5, 2) := by decide +kernel
theorem d_M_overtaken_74 : decode b_M_overtaken 74 = .ok (.iaload, 1) := by decide +kernel
theorem d_M_overtaken_75 : decode b_M_overtaken 75 = .ok (.iload_n 2, 1) := by decide +kernel
theorem d_M_overtaken_76 : decode b_M_overtaken 76 = .ok (.if_icmp .ne 7, 3) := by decide +kernel
theorem d_M_overtaken_79 : decode b_M_overtaken 79 = .ok (.iconst 1, 1) := by decide +kernel
theorem d_M_overtaken_80 : decode b_M_overtaken 80 = .ok (.goto 4, 3) := by decide +kernel
theorem d_M_overtaken_83 : decode b_M_overtaken 83 = .ok (.iconst 0, 1) := by decide +kernel
theorem d_M_overtaken_84 : decode b_M_overtaken 84 = .ok (.istore_n 3, 1) := by decide +kernel
theorem d_M_overtaken_85 : decode b_M_overtaken 85 = .ok (.iinc 4 1, 3) := by decide +kernel
theorem d_M_overtaken_88 : decode b_M_overtaken 88 = .ok (.goto (-83), 3) := by decide +kernel
theorem d_M_overtaken_91 : decode b_M_overtaken 91 = .ok (.iload_n 3, 1) := by decide +kernel
theorem d_M_overtaken_92 : decode b_M_overtaken 92 = .ok (.ireturn, 1) := by decide +kernel
abbrev y_M_place : MethodName := ⟨"HistoryJudgeModel", "place", "(I)I"⟩
abbrev b_M_place : ByteArray := prog_7_method_39_code
theorem d_M_place_0 : decode b_M_place 0 = .ok (.aload_n 0, 1) := by decide +kernel
theorem d_M_place_1 : decode b_M_place 1 = .ok (.iconst 0, 1) := by decide +kernel
theorem d_M_place_2 : decode b_M_place 2 = .ok (.putfield 50, 3) := by decide +kernel
theorem d_M_place_5 : decode b_M_place 5 = .ok (.aload_n 0, 1) := by decide +kernel
theorem d_M_place_6 : decode b_M_place 6 = .ok (.iconst 0, 1) := by decide +kernel
theorem d_M_place_7 : decode b_M_place 7 = .ok (.bipush 7, 2) := by decide +kernel
theorem d_M_place_9 : decode b_M_place 9 = .ok (.invokevirtual 139, 3) := by decide +kernel
theorem d_M_place_12 : decode b_M_place 12 = .ok (.istore_n 2, 1) := by decide +kernel
theorem d_M_place_13 : decode b_M_place 13 = .ok (.iload_n 2, 1) := by decide +kernel
theorem d_M_place_14 : decode b_M_place 14 = .ok (.ifCond .eq 24, 3) := by decide +kernel
theorem d_M_place_17 : decode b_M_place 17 = .ok (.iload_n 1, 1) := by decide +kernel
theorem d_M_place_18 : decode b_M_place 18 = .ok (.ifCond .lt 20, 3) := by decide +kernel
theorem d_M_place_21 : decode b_M_place 21 = .ok (.iload_n 1, 1) := by decide +kernel
theorem d_M_place_22 : decode b_M_place 22 = .ok (.aload_n 0, 1) := by decide +kernel
theorem d_M_place_23 : decode b_M_place 23 = .ok (.getfield 133, 3) := by decide +kernel
theorem d_M_place_26 : decode b_M_place 26 = .ok (.if_icmp .ge 12, 3) := by decide +kernel
theorem d_M_place_29 : decode b_M_place 29 = .ok (.aload_n 0, 1) := by decide +kernel
theorem d_M_place_30 : decode b_M_place 30 = .ok (.getfield 41, 3) := by decide +kernel
theorem d_M_place_33 : decode b_M_place 33 = .ok (.iload_n 1, 1) := by decide +kernel
theorem d_M_place_34 : decode b_M_place 34 = .ok (.iaload, 1) := by decide +kernel
theorem d_M_place_35 : decode b_M_place 35 = .ok (.goto 4, 3) := by decide +kernel
theorem d_M_place_38 : decode b_M_place 38 = .ok (.iconst (-1), 1) := by decide +kernel
theorem d_M_place_39 : decode b_M_place 39 = .ok (.ireturn, 1) := by decide +kernel
abbrev y_M_read : MethodName := ⟨"HistoryJudgeModel", "read", "(III)I"⟩
abbrev b_M_read : ByteArray := prog_7_method_8_code
theorem d_M_read_0 : decode b_M_read 0 = .ok (.aload_n 0, 1) := by decide +kernel
theorem d_M_read_1 : decode b_M_read 1 = .ok (.iload_n 1, 1) := by decide +kernel
theorem d_M_read_2 : decode b_M_read 2 = .ok (.invokestatic 57, 3) := by decide +kernel
theorem d_M_read_5 : decode b_M_read 5 = .ok (.ifCond .eq 10, 3) := by decide +kernel
theorem d_M_read_8 : decode b_M_read 8 = .ok (.iload_n 2, 1) := by decide +kernel
theorem d_M_read_9 : decode b_M_read 9 = .ok (.invokestatic 61, 3) := by decide +kernel
theorem d_M_read_12 : decode b_M_read 12 = .ok (.ifCond .ne 7, 3) := by decide +kernel
theorem d_M_read_15 : decode b_M_read 15 = .ok (.iconst 1, 1) := by decide +kernel
theorem d_M_read_16 : decode b_M_read 16 = .ok (.goto 44, 3) := by decide +kernel
theorem d_M_read_19 : decode b_M_read 19 = .ok (.aload_n 0, 1) := by decide +kernel
theorem d_M_read_20 : decode b_M_read 20 = .ok (.iload_n 2, 1) := by decide +kernel
theorem d_M_read_21 : decode b_M_read 21 = .ok (.iload_n 3, 1) := by decide +kernel
theorem d_M_read_22 : decode b_M_read 22 = .ok (.invokevirtual 71, 3) := by decide +kernel
theorem d_M_read_25 : decode b_M_read 25 = .ok (.ifCond .ne 7, 3) := by decide +kernel
theorem d_M_read_28 : decode b_M_read 28 = .ok (.iconst 2, 1) := by decide +kernel
theorem d_M_read_29 : decode b_M_read 29 = .ok (.goto 31, 3) := by decide +kernel
theorem d_M_read_32 : decode b_M_read 32 = .ok (.aload_n 0, 1) := by decide +kernel
theorem d_M_read_33 : decode b_M_read 33 = .ok (.getfield 7, 3) := by decide +kernel
theorem d_M_read_36 : decode b_M_read 36 = .ok (.iload_n 1, 1) := by decide +kernel
theorem d_M_read_37 : decode b_M_read 37 = .ok (.iaload, 1) := by decide +kernel
theorem d_M_read_38 : decode b_M_read 38 = .ok (.iconst 1, 1) := by decide +kernel
theorem d_M_read_39 : decode b_M_read 39 = .ok (.if_icmp .le 7, 3) := by decide +kernel
theorem d_M_read_42 : decode b_M_read 42 = .ok (.iconst 3, 1) := by decide +kernel
theorem d_M_read_43 : decode b_M_read 43 = .ok (.goto 17, 3) := by decide +kernel
theorem d_M_read_46 : decode b_M_read 46 = .ok (.aload_n 0, 1) := by decide +kernel
theorem d_M_read_47 : decode b_M_read 47 = .ok (.getfield 75, 3) := by decide +kernel
theorem d_M_read_50 : decode b_M_read 50 = .ok (.bipush 60, 2) := by decide +kernel
theorem d_M_read_52 : decode b_M_read 52 = .ok (.if_icmp .ne 7, 3) := by decide +kernel
theorem d_M_read_55 : decode b_M_read 55 = .ok (.iconst 4, 1) := by decide +kernel
theorem d_M_read_56 : decode b_M_read 56 = .ok (.goto 4, 3) := by decide +kernel
theorem d_M_read_59 : decode b_M_read 59 = .ok (.iconst 0, 1) := by decide +kernel
theorem d_M_read_60 : decode b_M_read 60 = .ok (.putfield 50, 3) := by decide +kernel
theorem d_M_read_63 : decode b_M_read 63 = .ok (.aload_n 0, 1) := by decide +kernel
theorem d_M_read_64 : decode b_M_read 64 = .ok (.getfield 50, 3) := by decide +kernel
theorem d_M_read_67 : decode b_M_read 67 = .ok (.ifCond .le 5, 3) := by decide +kernel
theorem d_M_read_70 : decode b_M_read 70 = .ok (.iconst 0, 1) := by decide +kernel
theorem d_M_read_71 : decode b_M_read 71 = .ok (.ireturn, 1) := by decide +kernel
theorem d_M_read_72 : decode b_M_read 72 = .ok (.aload_n 0, 1) := by decide +kernel
theorem d_M_read_73 : decode b_M_read 73 = .ok (.iload_n 1, 1) := by decide +kernel
theorem d_M_read_74 : decode b_M_read 74 = .ok (.iload_n 2, 1) := by decide +kernel
theorem d_M_read_75 : decode b_M_read 75 = .ok (.iload_n 3, 1) := by decide +kernel
theorem d_M_read_76 : decode b_M_read 76 = .ok (.iconst 0, 1) := by decide +kernel
theorem d_M_read_77 : decode b_M_read 77 = .ok (.invokevirtual 67, 3) := by decide +kernel
theorem d_M_read_80 : decode b_M_read 80 = .ok (.aload_n 0, 1) := by decide +kernel
theorem d_M_read_81 : decode b_M_read 81 = .ok (.aload_n 0, 1) := by decide +kernel
theorem d_M_read_82 : decode b_M_read 82 = .ok (.getfield 75, 3) := by decide +kernel
theorem d_M_read_85 : decode b_M_read 85 = .ok (.iconst 1, 1) := by decide +kernel
theorem d_M_read_86 : decode b_M_read 86 = .ok (.iadd, 1) := by decide +kernel
theorem d_M_read_87 : decode b_M_read 87 = .ok (.putfield 75, 3) := by decide +kernel
theorem d_M_read_90 : decode b_M_read 90 = .ok (.aload_n 0, 1) := by decide +kernel
theorem d_M_read_91 : decode b_M_read 91 = .ok (.getfield 75, 3) := by decide +kernel
theorem d_M_read_94 : decode b_M_read 94 = .ok (.ireturn, 1) := by decide +kernel
abbrev y_M_readFlaws : MethodName := ⟨"HistoryJudgeModel", "readFlaws", "()I"⟩
abbrev b_M_readFlaws : ByteArray := prog_7_method_31_code
theorem d_M_readFlaws_0 : decode b_M_readFlaws 0 = .ok (.iconst 0, 1) := by decide +kernel
theorem d_M_readFlaws_1 : decode b_M_readFlaws 1 = .ok (.istore_n 1, 1) := by decide +kernel
theorem d_M_readFlaws_2 : decode b_M_readFlaws 2 = .ok (.iconst 0, 1) := by decide +kernel
theorem d_M_readFlaws_3 : decode b_M_readFlaws 3 = .ok (.istore_n 2, 1) := by decide +kernel
theorem d_M_readFlaws_4 : decode b_M_readFlaws 4 = .ok (.iconst 0, 1) := by decide +kernel
theorem d_M_readFlaws_5 : decode b_M_readFlaws 5 = .ok (.istore_n 3, 1) := by decide +kernel
theorem d_M_readFlaws_6 : decode b_M_readFlaws 6 = .ok (.iload_n 3, 1) := by decide +kernel
theorem d_M_readFlaws_7 : decode b_M_readFlaws 7 = .ok (.aload_n 0, 1) := by decide +kernel
theorem d_M_readFlaws_8 : decode b_M_readFlaws 8 = .ok (.getfield 54, 3) := by decide +kernel
theorem d_M_readFlaws_11 : decode b_M_readFlaws 11 = .ok (.if_icmp .ge 142, 3) := by decide +kernel
theorem d_M_readFlaws_14 : decode b_M_readFlaws 14 = .ok (.aload_n 0, 1) := by decide +kernel
theorem d_M_readFlaws_15 : decode b_M_readFlaws 15 = .ok (.getfield 25, 3) := by decide +kernel
theorem d_M_readFlaws_18 : decode b_M_readFlaws 18 = .ok (.iload_n 3, 1) := by decide +kernel
theorem d_M_readFlaws_19 : decode b_M_readFlaws 19 = .ok (.iaload, 1) := by decide +kernel
theorem d_M_readFlaws_20 : decode b_M_readFlaws 20 = .ok (.istore 4, 2) := by decide +kernel
theorem d_M_readFlaws_22 : decode b_M_readFlaws 22 = .ok (.aload_n 0, 1) := by decide +kernel
theorem d_M_readFlaws_23 : decode b_M_readFlaws 23 = .ok (.getfield 28, 3) := by decide +kernel
theorem d_M_readFlaws_26 : decode b_M_readFlaws 26 = .ok (.iload_n 3, 1) := by decide +kernel
theorem d_M_readFlaws_27 : decode b_M_readFlaws 27 = .ok (.baload, 1) := by decide +kernel
theorem d_M_readFlaws_28 : decode b_M_readFlaws 28 = .ok (.ifCond .ne 25, 3) := by decide +kernel
theorem d_M_readFlaws_31 : decode b_M_readFlaws 31 = .ok (.aload_n 0, 1) := by decide +kernel
theorem d_M_readFlaws_32 : decode b_M_readFlaws 32 = .ok (.aload_n 0, 1) := by decide +kernel
theorem d_M_readFlaws_33 : decode b_M_readFlaws 33 = .ok (.getfield 19, 3) := by decide +kernel
theorem d_M_readFlaws_36 : decode b_M_readFlaws 36 = .ok (.iload_n 3, 1) := by decide +kernel
theorem d_M_readFlaws_37 : decode b_M_readFlaws 37 = .ok (.iaload, 1) := by decide +kernel
theorem d_M_readFlaws_38 : decode b_M_readFlaws 38 = .ok (.invokevirtual 85, 3) := by decide +kernel
theorem d_M_readFlaws_41 : decode b_M_readFlaws 41 = .ok (.ifCond .eq 12, 3) := by decide +kernel
theorem d_M_readFlaws_44 : decode b_M_readFlaws 44 = .ok (.iload 4, 2) := by decide +kernel
theorem d_M_readFlaws_46 : decode b_M_readFlaws 46 = .ok (.ifCond .lt 7, 3) := by decide +kernel
theorem d_M_readFlaws_49 : decode b_M_readFlaws 49 = .ok (.iconst 1, 1) := by decide +kernel
theorem d_M_readFlaws_50 : decode b_M_readFlaws 50 = .ok (.goto 4, 3) := by decide +kernel
theorem d_M_readFlaws_53 : decode b_M_readFlaws 53 = .ok (.iconst 0, 1) := by decide +kernel
theorem d_M_readFlaws_54 : decode b_M_readFlaws 54 = .ok (.istore 5, 2) := by decide +kernel
theorem d_M_readFlaws_56 : decode b_M_readFlaws 56 = .ok (.iload 5, 2) := by decide +kernel
theorem d_M_readFlaws_58 : decode b_M_readFlaws 58 = .ok (.ifCond .eq 13, 3) := by decide +kernel
theorem d_M_readFlaws_61 : decode b_M_readFlaws 61 = .ok (.aload_n 0, 1) := by decide +kernel
theorem d_M_readFlaws_62 : decode b_M_readFlaws 62 = .ok (.getfield 13, 3) := by decide +kernel
theorem d_M_readFlaws_65 : decode b_M_readFlaws 65 = .ok (.iload 4, 2) := by decide +kernel
theorem d_M_readFlaws_67 : decode b_M_readFlaws 67 = .ok (.iaload, 1) := by decide +kernel
theorem d_M_readFlaws_68 : decode b_M_readFlaws 68 = .ok (.goto 9, 3) := by decide +kernel
theorem d_M_readFlaws_71 : decode b_M_readFlaws 71 = .ok (.aload_n 0, 1) := by decide +kernel
theorem d_M_readFlaws_72 : decode b_M_readFlaws 72 = .ok (.getfield 19, 3) := by decide +kernel
theorem d_M_readFlaws_75 : decode b_M_readFlaws 75 = .ok (.iload_n 3, 1) := by decide +kernel
theorem d_M_readFlaws_76 : decode b_M_readFlaws 76 = .ok (.iaload, 1) := by decide +kernel
theorem d_M_readFlaws_77 : decode b_M_readFlaws 77 = .ok (.istore 6, 2) := by decide +kernel
theorem d_M_readFlaws_79 : decode b_M_readFlaws 79 = .ok (.iload_n 1, 1) := by decide +kernel
theorem d_M_readFlaws_80 : decode b_M_readFlaws 80 = .ok (.ifCond .ne 17, 3) := by decide +kernel
theorem d_M_readFlaws_83 : decode b_M_readFlaws 83 = .ok (.iload 5, 2) := by decide +kernel
theorem d_M_readFlaws_85 : decode b_M_readFlaws 85 = .ok (.ifCond .eq 16, 3) := by decide +kernel
theorem d_M_readFlaws_88 : decode b_M_readFlaws 88 = .ok (.aload_n 0, 1) := by decide +kernel
theorem d_M_readFlaws_89 : decode b_M_readFlaws 89 = .ok (.iload 6, 2) := by decide +kernel
theorem d_M_readFlaws_91 : decode b_M_readFlaws 91 = .ok (.invokevirtual 85, 3) := by decide +kernel
theorem d_M_readFlaws_94 : decode b_M_readFlaws 94 = .ok (.ifCond .ne 7, 3) := by decide +kernel
theorem d_M_readFlaws_97 : decode b_M_readFlaws 97 = .ok (.iconst 1, 1) := by decide +kernel
theorem d_M_readFlaws_98 : decode b_M_readFlaws 98 = .ok (.goto 4, 3) := by decide +kernel
theorem d_M_readFlaws_101 : decode b_M_readFlaws 101 = .ok (.iconst 0, 1) := by decide +kernel
theorem d_M_readFlaws_102 : decode b_M_readFlaws 102 = .ok (.istore_n 1, 1) := by decide +kernel
theorem d_M_readFlaws_103 : decode b_M_readFlaws 103 = .ok (.iload_n 2, 1) := by decide +kernel
theorem d_M_readFlaws_104 : decode b_M_readFlaws 104 = .ok (.ifCond .ne 37, 3) := by decide +kernel
theorem d_M_readFlaws_107 : decode b_M_readFlaws 107 = .ok (.iload 5, 2) := by decide +kernel
theorem d_M_readFlaws_109 : decode b_M_readFlaws 109 = .ok (.ifCond .eq 36, 3) := by decide +kernel
theorem d_M_readFlaws_112 : decode b_M_readFlaws 112 = .ok (.iload 6, 2) := by decide +kernel
theorem d_M_readFlaws_114 : decode b_M_readFlaws 114 = .ok (.aload_n 0, 1) := by decide +kernel
theorem d_M_readFlaws_115 : decode b_M_readFlaws 115 = .ok (.getfield 19, 3) := by decide +kernel
theorem d_M_readFlaws_118 : decode b_M_readFlaws 118 = .ok (.iload_n 3, 1) := by decide +kernel
theorem d_M_readFlaws_119 : decode b_M_readFlaws 119 = .ok (.iaload, 1) := by decide +kernel
theorem d_M_readFlaws_120 : decode b_M_readFlaws 120 = .ok (.if_icmp .eq 25, 3) := by decide +kernel
theorem d_M_readFlaws_123 : decode b_M_readFlaws 123 = .ok (.aload_n 0, 1) := by decide +kernel
theorem d_M_readFlaws_124 : decode b_M_readFlaws 124 = .ok (.iload 6, 2) := by decide +kernel
theorem d_M_readFlaws_126 : decode b_M_readFlaws 126 = .ok (.invokevirtual 85, 3) := by decide +kernel
theorem d_M_readFlaws_129 : decode b_M_readFlaws 129 = .ok (.ifCond .eq 16, 3) := by decide +kernel
theorem d_M_readFlaws_132 : decode b_M_readFlaws 132 = .ok (.aload_n 0, 1) := by decide +kernel
theorem d_M_readFlaws_133 : decode b_M_readFlaws 133 = .ok (.iload 4, 2) := by decide +kernel
theorem d_M_readFlaws_135 : decode b_M_readFlaws 135 = .ok (.invokevirtual 78, 3) := by decide +kernel
theorem d_M_readFlaws_138 : decode b_M_readFlaws 138 = .ok (.ifCond .ne 7, 3) := by decide +kernel
theorem d_M_readFlaws_141 : decode b_M_readFlaws 141 = .ok (.iconst 1, 1) := by decide +kernel
theorem d_M_readFlaws_142 : decode b_M_readFlaws 142 = .ok (.goto 4, 3) := by decide +kernel
theorem d_M_readFlaws_145 : decode b_M_readFlaws 145 = .ok (.iconst 0, 1) := by decide +kernel
theorem d_M_readFlaws_146 : decode b_M_readFlaws 146 = .ok (.istore_n 2, 1) := by decide +kernel
theorem d_M_readFlaws_147 : decode b_M_readFlaws 147 = .ok (.iinc 3 1, 3) := by decide +kernel
theorem d_M_readFlaws_150 : decode b_M_readFlaws 150 = .ok (.goto (-144), 3) := by decide +kernel
theorem d_M_readFlaws_153 : decode b_M_readFlaws 153 = .ok (.iload_n 1, 1) := by decide +kernel
theorem d_M_readFlaws_154 : decode b_M_readFlaws 154 = .ok (.ifCond .eq 7, 3) := by decide +kernel
theorem d_M_readFlaws_157 : decode b_M_readFlaws 157 = .ok (.iconst 2, 1) := by decide +kernel
theorem d_M_readFlaws_158 : decode b_M_readFlaws 158 = .ok (.goto 4, 3) := by decide +kernel
theorem d_M_readFlaws_161 : decode b_M_readFlaws 161 = .ok (.iconst 0, 1) := by decide +kernel
theorem d_M_readFlaws_162 : decode b_M_readFlaws 162 = .ok (.iload_n 2, 1) := by decide +kernel
theorem d_M_readFlaws_163 : decode b_M_readFlaws 163 = .ok (.ifCond .eq 7, 3) := by decide +kernel
theorem d_M_readFlaws_166 : decode b_M_readFlaws 166 = .ok (.iconst 4, 1) := by decide +kernel
theorem d_M_readFlaws_167 : decode b_M_readFlaws 167 = .ok (.goto 4, 3) := by decide +kernel
theorem d_M_readFlaws_170 : decode b_M_readFlaws 170 = .ok (.iconst 0, 1) := by decide +kernel
theorem d_M_readFlaws_171 : decode b_M_readFlaws 171 = .ok (.iadd, 1) := by decide +kernel
theorem d_M_readFlaws_172 : decode b_M_readFlaws 172 = .ok (.ireturn, 1) := by decide +kernel
abbrev y_M_runs : MethodName := ⟨"HistoryJudgeModel", "runs", "(II)Z"⟩
abbrev b_M_runs : ByteArray := prog_7_method_36_code
theorem d_M_runs_0 : decode b_M_runs 0 = .ok (.iconst 0, 1) := by decide +kernel
theorem d_M_runs_1 : decode b_M_runs 1 = .ok (.istore_n 3, 1) := by decide +kernel
theorem d_M_runs_2 : decode b_M_runs 2 = .ok (.iload_n 3, 1) := by decide +kernel
theorem d_M_runs_3 : decode b_M_runs 3 = .ok (.bipush 6, 2) := by decide +kernel
theorem d_M_runs_5 : decode b_M_runs 5 = .ok (.if_icmp .ge 34, 3) := by decide +kernel
theorem d_M_runs_8 : decode b_M_runs 8 = .ok (.aload_n 0, 1) := by decide +kernel
theorem d_M_runs_9 : decode b_M_runs 9 = .ok (.getfield 47, 3) := by decide +kernel
theorem d_M_runs_12 : decode b_M_runs 12 = .ok (.bipush 6, 2) := by decide +kernel
theorem d_M_runs_14 : decode b_M_runs 14 = .ok (.iload_n 1, 1) := by decide +kernel
theorem d_M_runs_15 : decode b_M_runs 15 = .ok (.imul, 1) := by decide +kernel
theorem d_M_runs_16 : decode b_M_runs 16 = .ok (.bipush 6, 2) := by decide +kernel
theorem d_M_runs_18 : decode b_M_runs 18 = .ok (.iadd, 1) := by decide +kernel
theorem d_M_runs_19 : decode b_M_runs 19 = .ok (.iload_n 3, 1) := by decide +kernel
theorem d_M_runs_20 : decode b_M_runs 20 = .ok (.iadd, 1) := by decide +kernel
theorem d_M_runs_21 : decode b_M_runs 21 = .ok (.aload_n 0, 1) := by decide +kernel
theorem d_M_runs_22 : decode b_M_runs 22 = .ok (.getfield 47, 3) := by decide +kernel
theorem d_M_runs_25 : decode b_M_runs 25 = .ok (.bipush 6, 2) := by decide +kernel
theorem d_M_runs_27 : decode b_M_runs 27 = .ok (.iload_n 1, 1) := by decide +kernel
theorem d_M_runs_28 : decode b_M_runs 28 = .ok (.imul, 1) := by decide +kernel
theorem d_M_runs_29 : decode b_M_runs 29 = .ok (.iload_n 3, 1) := by decide +kernel
theorem d_M_runs_30 : decode b_M_runs 30 = .ok (.iadd, 1) := by decide +kernel
theorem d_M_runs_31 : decode b_M_runs 31 = .ok (.iaload, 1) := by decide +kernel
theorem d_M_runs_32 : decode b_M_runs 32 = .ok (.iastore, 1) := by decide +kernel
theorem d_M_runs_33 : decode b_M_runs 33 = .ok (.iinc 3 1, 3) := by decide +kernel
theorem d_M_runs_36 : decode b_M_runs 36 = .ok (.goto (-34), 3) := by decide +kernel
theorem d_M_runs_39 : decode b_M_runs 39 = .ok (.iconst 0, 1) := by decide +kernel
theorem d_M_runs_40 : decode b_M_runs 40 = .ok (.istore_n 3, 1) := by decide +kernel
theorem d_M_runs_41 : decode b_M_runs 41 = .ok (.iload_n 3, 1) := by decide +kernel
theorem d_M_runs_42 : decode b_M_runs 42 = .ok (.aload_n 0, 1) := by decide +kernel
theorem d_M_runs_43 : decode b_M_runs 43 = .ok (.getfield 54, 3) := by decide +kernel
theorem d_M_runs_46 : decode b_M_runs 46 = .ok (.if_icmp .ge 88, 3) := by decide +kernel
theorem d_M_runs_49 : decode b_M_runs 49 = .ok (.bipush 6, 2) := by decide +kernel
theorem d_M_runs_51 : decode b_M_runs 51 = .ok (.iload_n 1, 1) := by decide +kernel
theorem d_M_runs_52 : decode b_M_runs 52 = .ok (.imul, 1) := by decide +kernel
theorem d_M_runs_53 : decode b_M_runs 53 = .ok (.bipush 6, 2) := by decide +kernel
theorem d_M_runs_55 : decode b_M_runs 55 = .ok (.iadd, 1) := by decide +kernel
theorem d_M_runs_56 : decode b_M_runs 56 = .ok (.aload_n 0, 1) := by decide +kernel
theorem d_M_runs_57 : decode b_M_runs 57 = .ok (.getfield 22, 3) := by decide +kernel
theorem d_M_runs_60 : decode b_M_runs 60 = .ok (.iload_n 3, 1) := by decide +kernel
theorem d_M_runs_61 : decode b_M_runs 61 = .ok (.iaload, 1) := by decide +kernel
theorem d_M_runs_62 : decode b_M_runs 62 = .ok (.iadd, 1) := by decide +kernel
theorem d_M_runs_63 : decode b_M_runs 63 = .ok (.istore 4, 2) := by decide +kernel
theorem d_M_runs_65 : decode b_M_runs 65 = .ok (.aload_n 0, 1) := by decide +kernel
theorem d_M_runs_66 : decode b_M_runs 66 = .ok (.getfield 19, 3) := by decide +kernel
theorem d_M_runs_69 : decode b_M_runs 69 = .ok (.iload_n 3, 1) := by decide +kernel
theorem d_M_runs_70 : decode b_M_runs 70 = .ok (.iaload, 1) := by decide +kernel
theorem d_M_runs_71 : decode b_M_runs 71 = .ok (.iload_n 2, 1) := by decide +kernel
theorem d_M_runs_72 : decode b_M_runs 72 = .ok (.if_icmp .ne 28, 3) := by decide +kernel
theorem d_M_runs_75 : decode b_M_runs 75 = .ok (.aload_n 0, 1) := by decide +kernel
theorem d_M_runs_76 : decode b_M_runs 76 = .ok (.getfield 28, 3) := by decide +kernel
theorem d_M_runs_79 : decode b_M_runs 79 = .ok (.iload_n 3, 1) := by decide +kernel
theorem d_M_runs_80 : decode b_M_runs 80 = .ok (.baload, 1) := by decide +kernel
theorem d_M_runs_81 : decode b_M_runs 81 = .ok (.ifCond .eq 19, 3) := by decide +kernel
theorem d_M_runs_84 : decode b_M_runs 84 = .ok (.aload_n 0, 1) := by decide +kernel
theorem d_M_runs_85 : decode b_M_runs 85 = .ok (.getfield 47, 3) := by decide +kernel
theorem d_M_runs_88 : decode b_M_runs 88 = .ok (.iload 4, 2) := by decide +kernel
theorem d_M_runs_90 : decode b_M_runs 90 = .ok (.aload_n 0, 1) := by decide +kernel
theorem d_M_runs_91 : decode b_M_runs 91 = .ok (.getfield 25, 3) := by decide +kernel
theorem d_M_runs_94 : decode b_M_runs 94 = .ok (.iload_n 3, 1) := by decide +kernel
theorem d_M_runs_95 : decode b_M_runs 95 = .ok (.iaload, 1) := by decide +kernel
theorem d_M_runs_96 : decode b_M_runs 96 = .ok (.iastore, 1) := by decide +kernel
theorem d_M_runs_97 : decode b_M_runs 97 = .ok (.goto 31, 3) := by decide +kernel
theorem d_M_runs_100 : decode b_M_runs 100 = .ok (.aload_n 0, 1) := by decide +kernel
theorem d_M_runs_101 : decode b_M_runs 101 = .ok (.getfield 19, 3) := by decide +kernel
theorem d_M_runs_104 : decode b_M_runs 104 = .ok (.iload_n 3, 1) := by decide +kernel
theorem d_M_runs_105 : decode b_M_runs 105 = .ok (.iaload, 1) := by decide +kernel
theorem d_M_runs_106 : decode b_M_runs 106 = .ok (.iload_n 2, 1) := by decide +kernel
theorem d_M_runs_107 : decode b_M_runs 107 = .ok (.if_icmp .ne 21, 3) := by decide +kernel
theorem d_M_runs_110 : decode b_M_runs 110 = .ok (.aload_n 0, 1) := by decide +kernel
theorem d_M_runs_111 : decode b_M_runs 111 = .ok (.getfield 47, 3) := by decide +kernel
theorem d_M_runs_114 : decode b_M_runs 114 = .ok (.iload 4, 2) := by decide +kernel
theorem d_M_runs_116 : decode b_M_runs 116 = .ok (.iaload, 1) := by decide +kernel
theorem d_M_runs_117 : decode b_M_runs 117 = .ok (.aload_n 0, 1) := by decide +kernel
theorem d_M_runs_118 : decode b_M_runs 118 = .ok (.getfield 25, 3) := by decide +kernel
theorem d_M_runs_121 : decode b_M_runs 121 = .ok (.iload_n 3, 1) := by decide +kernel
theorem d_M_runs_122 : decode b_M_runs 122 = .ok (.iaload, 1) := by decide +kernel
theorem d_M_runs_123 : decode b_M_runs 123 = .ok (.if_icmp .eq 5, 3) := by decide +kernel
theorem d_M_runs_126 : decode b_M_runs 126 = .ok (.iconst 0, 1) := by decide +kernel
theorem d_M_runs_127 : decode b_M_runs 127 = .ok (.ireturn, 1) := by decide +kernel
theorem d_M_runs_128 : decode b_M_runs 128 = .ok (.iinc 3 1, 3) := by decide +kernel
theorem d_M_runs_131 : decode b_M_runs 131 = .ok (.goto (-90), 3) := by decide +kernel
theorem d_M_runs_134 : decode b_M_runs 134 = .ok (.iconst 1, 1) := by decide +kernel
theorem d_M_runs_135 : decode b_M_runs 135 = .ok (.ireturn, 1) := by decide +kernel
abbrev y_M_serial : MethodName := ⟨"HistoryJudgeModel", "serial", "()Z"⟩
abbrev b_M_serial : ByteArray := prog_7_method_38_code
theorem d_M_serial_0 : decode b_M_serial 0 = .ok (.aload_n 0, 1) := by decide +kernel
theorem d_M_serial_1 : decode b_M_serial 1 = .ok (.iconst 0, 1) := by decide +kernel
theorem d_M_serial_2 : decode b_M_serial 2 = .ok (.putfield 50, 3) := by decide +kernel
theorem d_M_serial_5 : decode b_M_serial 5 = .ok (.aload_n 0, 1) := by decide +kernel
theorem d_M_serial_6 : decode b_M_serial 6 = .ok (.iconst 0, 1) := by decide +kernel
theorem d_M_serial_7 : decode b_M_serial 7 = .ok (.bipush 7, 2) := by decide +kernel
theorem d_M_serial_9 : decode b_M_serial 9 = .ok (.invokevirtual 139, 3) := by decide +kernel
theorem d_M_serial_12 : decode b_M_serial 12 = .ok (.ireturn, 1) := by decide +kernel
abbrev y_M_state : MethodName := ⟨"HistoryJudgeModel", "state", "(I)I"⟩
abbrev b_M_state : ByteArray := prog_7_method_11_code
theorem d_M_state_0 : decode b_M_state 0 = .ok (.aload_n 0, 1) := by decide +kernel
theorem d_M_state_1 : decode b_M_state 1 = .ok (.iconst 0, 1) := by decide +kernel
theorem d_M_state_2 : decode b_M_state 2 = .ok (.putfield 50, 3) := by decide +kernel
theorem d_M_state_5 : decode b_M_state 5 = .ok (.iload_n 1, 1) := by decide +kernel
theorem d_M_state_6 : decode b_M_state 6 = .ok (.invokestatic 57, 3) := by decide +kernel
theorem d_M_state_9 : decode b_M_state 9 = .ok (.ifCond .eq 12, 3) := by decide +kernel
theorem d_M_state_12 : decode b_M_state 12 = .ok (.aload_n 0, 1) := by decide +kernel
theorem d_M_state_13 : decode b_M_state 13 = .ok (.getfield 7, 3) := by decide +kernel
theorem d_M_state_16 : decode b_M_state 16 = .ok (.iload_n 1, 1) := by decide +kernel
theorem d_M_state_17 : decode b_M_state 17 = .ok (.iaload, 1) := by decide +kernel
theorem d_M_state_18 : decode b_M_state 18 = .ok (.goto 4, 3) := by decide +kernel
theorem d_M_state_21 : decode b_M_state 21 = .ok (.iconst (-1), 1) := by decide +kernel
theorem d_M_state_22 : decode b_M_state 22 = .ok (.ireturn, 1) := by decide +kernel
abbrev y_M_step : MethodName := ⟨"HistoryJudgeModel", "step", "(II)I"⟩
abbrev b_M_step : ByteArray := prog_7_method_30_code
theorem d_M_step_0 : decode b_M_step 0 = .ok (.aload_n 0, 1) := by decide +kernel
theorem d_M_step_1 : decode b_M_step 1 = .ok (.iconst 0, 1) := by decide +kernel
theorem d_M_step_2 : decode b_M_step 2 = .ok (.putfield 50, 3) := by decide +kernel
theorem d_M_step_5 : decode b_M_step 5 = .ok (.aload_n 0, 1) := by decide +kernel
theorem d_M_step_6 : decode b_M_step 6 = .ok (.iload_n 1, 1) := by decide +kernel
theorem d_M_step_7 : decode b_M_step 7 = .ok (.invokevirtual 120, 3) := by decide +kernel
theorem d_M_step_10 : decode b_M_step 10 = .ok (.istore_n 3, 1) := by decide +kernel
theorem d_M_step_11 : decode b_M_step 11 = .ok (.iload_n 2, 1) := by decide +kernel
theorem d_M_step_12 : decode b_M_step 12 = .ok (.ifCond .lt 17, 3) := by decide +kernel
theorem d_M_step_15 : decode b_M_step 15 = .ok (.iload_n 2, 1) := by decide +kernel
theorem d_M_step_16 : decode b_M_step 16 = .ok (.iload_n 3, 1) := by decide +kernel
theorem d_M_step_17 : decode b_M_step 17 = .ok (.if_icmp .ge 12, 3) := by decide +kernel
theorem d_M_step_20 : decode b_M_step 20 = .ok (.aload_n 0, 1) := by decide +kernel
theorem d_M_step_21 : decode b_M_step 21 = .ok (.getfield 41, 3) := by decide +kernel
theorem d_M_step_24 : decode b_M_step 24 = .ok (.iload_n 2, 1) := by decide +kernel
theorem d_M_step_25 : decode b_M_step 25 = .ok (.iaload, 1) := by decide +kernel
theorem d_M_step_26 : decode b_M_step 26 = .ok (.goto 4, 3) := by decide +kernel
theorem d_M_step_29 : decode b_M_step 29 = .ok (.iconst (-1), 1) := by decide +kernel
theorem d_M_step_30 : decode b_M_step 30 = .ok (.ireturn, 1) := by decide +kernel
abbrev y_M_thrown : MethodName := ⟨"HistoryJudgeModel", "thrown", "()I"⟩
abbrev b_M_thrown : ByteArray := prog_7_method_2_code
theorem d_M_thrown_0 : decode b_M_thrown 0 = .ok (.aload_n 0, 1) := by decide +kernel
theorem d_M_thrown_1 : decode b_M_thrown 1 = .ok (.getfield 50, 3) := by decide +kernel
theorem d_M_thrown_4 : decode b_M_thrown 4 = .ok (.ireturn, 1) := by decide +kernel
abbrev y_M_tryOrders : MethodName := ⟨"HistoryJudgeModel", "tryOrders", "(II)Z"⟩
abbrev b_M_tryOrders : ByteArray := prog_7_method_37_code
theorem d_M_tryOrders_0 : decode b_M_tryOrders 0 = .ok (.aload_n 0, 1) := by decide +kernel
theorem d_M_tryOrders_1 : decode b_M_tryOrders 1 = .ok (.aload_n 0, 1) := by decide +kernel
theorem d_M_tryOrders_2 : decode b_M_tryOrders 2 = .ok (.invokevirtual 130, 3) := by decide +kernel
theorem d_M_tryOrders_5 : decode b_M_tryOrders 5 = .ok (.putfield 133, 3) := by decide +kernel
theorem d_M_tryOrders_8 : decode b_M_tryOrders 8 = .ok (.iconst 0, 1) := by decide +kernel
theorem d_M_tryOrders_9 : decode b_M_tryOrders 9 = .ok (.istore_n 3, 1) := by decide +kernel
theorem d_M_tryOrders_10 : decode b_M_tryOrders 10 = .ok (.iload_n 3, 1) := by decide +kernel
theorem d_M_tryOrders_11 : decode b_M_tryOrders 11 = .ok (.bipush 6, 2) := by decide +kernel
theorem d_M_tryOrders_13 : decode b_M_tryOrders 13 = .ok (.if_icmp .ge 16, 3) := by decide +kernel
theorem d_M_tryOrders_16 : decode b_M_tryOrders 16 = .ok (.aload_n 0, 1) := by decide +kernel
theorem d_M_tryOrders_17 : decode b_M_tryOrders 17 = .ok (.getfield 47, 3) := by decide +kernel
theorem d_M_tryOrders_20 : decode b_M_tryOrders 20 = .ok (.iload_n 3, 1) := by decide +kernel
theorem d_M_tryOrders_21 : decode b_M_tryOrders 21 = .ok (.iconst (-1), 1) := by decide +kernel
theorem d_M_tryOrders_22 : decode b_M_tryOrders 22 = .ok (.iastore, 1) := by decide +kernel
theorem d_M_tryOrders_23 : decode b_M_tryOrders 23 = .ok (.iinc 3 1, 3) := by decide +kernel
theorem d_M_tryOrders_26 : decode b_M_tryOrders 26 = .ok (.goto (-16), 3) := by decide +kernel
theorem d_M_tryOrders_29 : decode b_M_tryOrders 29 = .ok (.iconst 0, 1) := by decide +kernel
theorem d_M_tryOrders_30 : decode b_M_tryOrders 30 = .ok (.istore_n 3, 1) := by decide +kernel
theorem d_M_tryOrders_31 : decode b_M_tryOrders 31 = .ok (.aload_n 0, 1) := by decide +kernel
theorem d_M_tryOrders_32 : decode b_M_tryOrders 32 = .ok (.getfield 44, 3) := by decide +kernel
theorem d_M_tryOrders_35 : decode b_M_tryOrders 35 = .ok (.iconst 0, 1) := by decide +kernel
theorem d_M_tryOrders_36 : decode b_M_tryOrders 36 = .ok (.iload_n 1, 1) := by decide +kernel
theorem d_M_tryOrders_37 : decode b_M_tryOrders 37 = .ok (.iastore, 1) := by decide +kernel
theorem d_M_tryOrders_38 : decode b_M_tryOrders 38 = .ok (.iload_n 3, 1) := by decide +kernel
theorem d_M_tryOrders_39 : decode b_M_tryOrders 39 = .ok (.ifCond .lt 102, 3) := by decide +kernel
theorem d_M_tryOrders_42 : decode b_M_tryOrders 42 = .ok (.iload_n 3, 1) := by decide +kernel
theorem d_M_tryOrders_43 : decode b_M_tryOrders 43 = .ok (.aload_n 0, 1) := by decide +kernel
theorem d_M_tryOrders_44 : decode b_M_tryOrders 44 = .ok (.getfield 133, 3) := by decide +kernel
theorem d_M_tryOrders_47 : decode b_M_tryOrders 47 = .ok (.if_icmp .ge 94, 3) := by decide +kernel
theorem d_M_tryOrders_50 : decode b_M_tryOrders 50 = .ok (.aload_n 0, 1) := by decide +kernel
theorem d_M_tryOrders_51 : decode b_M_tryOrders 51 = .ok (.getfield 44, 3) := by decide +kernel
theorem d_M_tryOrders_54 : decode b_M_tryOrders 54 = .ok (.iload_n 3, 1) := by decide +kernel
theorem d_M_tryOrders_55 : decode b_M_tryOrders 55 = .ok (.iaload, 1) := by decide +kernel
theorem d_M_tryOrders_56 : decode b_M_tryOrders 56 = .ok (.istore 4, 2) := by decide +kernel
theorem d_M_tryOrders_58 : decode b_M_tryOrders 58 = .ok (.aload_n 0, 1) := by decide +kernel
theorem d_M_tryOrders_59 : decode b_M_tryOrders 59 = .ok (.getfield 44, 3) := by decide +kernel
theorem d_M_tryOrders_62 : decode b_M_tryOrders 62 = .ok (.iload_n 3, 1) := by decide +kernel
theorem d_M_tryOrders_63 : decode b_M_tryOrders 63 = .ok (.iload 4, 2) := by decide +kernel
theorem d_M_tryOrders_65 : decode b_M_tryOrders 65 = .ok (.iconst 1, 1) := by decide +kernel
theorem d_M_tryOrders_66 : decode b_M_tryOrders 66 = .ok (.iadd, 1) := by decide +kernel
theorem d_M_tryOrders_67 : decode b_M_tryOrders 67 = .ok (.iastore, 1) := by decide +kernel
theorem d_M_tryOrders_68 : decode b_M_tryOrders 68 = .ok (.iload 4, 2) := by decide +kernel
theorem d_M_tryOrders_70 : decode b_M_tryOrders 70 = .ok (.iload_n 3, 1) := by decide +kernel
theorem d_M_tryOrders_71 : decode b_M_tryOrders 71 = .ok (.ifCond .ne 7, 3) := by decide +kernel
theorem d_M_tryOrders_74 : decode b_M_tryOrders 74 = .ok (.iload_n 2, 1) := by decide +kernel
theorem d_M_tryOrders_75 : decode b_M_tryOrders 75 = .ok (.goto 5, 3) := by decide +kernel
theorem d_M_tryOrders_78 : decode b_M_tryOrders 78 = .ok (.bipush 7, 2) := by decide +kernel
theorem d_M_tryOrders_80 : decode b_M_tryOrders 80 = .ok (.if_icmp .le 10, 3) := by decide +kernel
theorem d_M_tryOrders_83 : decode b_M_tryOrders 83 = .ok (.iload_n 3, 1) := by decide +kernel
theorem d_M_tryOrders_84 : decode b_M_tryOrders 84 = .ok (.iconst 1, 1) := by decide +kernel
theorem d_M_tryOrders_85 : decode b_M_tryOrders 85 = .ok (.isub, 1) := by decide +kernel
theorem d_M_tryOrders_86 : decode b_M_tryOrders 86 = .ok (.istore_n 3, 1) := by decide +kernel
theorem d_M_tryOrders_87 : decode b_M_tryOrders 87 = .ok (.goto 51, 3) := by decide +kernel
theorem d_M_tryOrders_90 : decode b_M_tryOrders 90 = .ok (.aload_n 0, 1) := by decide +kernel
theorem d_M_tryOrders_91 : decode b_M_tryOrders 91 = .ok (.iload 4, 2) := by decide +kernel
theorem d_M_tryOrders_93 : decode b_M_tryOrders 93 = .ok (.invokevirtual 85, 3) := by decide +kernel
theorem d_M_tryOrders_96 : decode b_M_tryOrders 96 = .ok (.ifCond .eq 42, 3) := by decide +kernel
theorem d_M_tryOrders_99 : decode b_M_tryOrders 99 = .ok (.aload_n 0, 1) := by decide +kernel
theorem d_M_tryOrders_100 : decode b_M_tryOrders 100 = .ok (.iload 4, 2) := by decide +kernel
theorem d_M_tryOrders_102 : decode b_M_tryOrders 102 = .ok (.iload_n 3, 1) := by decide +kernel
theorem d_M_tryOrders_103 : decode b_M_tryOrders 103 = .ok (.invokevirtual 104, 3) := by decide +kernel
theorem d_M_tryOrders_106 : decode b_M_tryOrders 106 = .ok (.ifCond .ne 32, 3) := by decide +kernel
theorem d_M_tryOrders_109 : decode b_M_tryOrders 109 = .ok (.aload_n 0, 1) := by decide +kernel
theorem d_M_tryOrders_110 : decode b_M_tryOrders 110 = .ok (.iload_n 3, 1) := by decide +kernel
theorem d_M_tryOrders_111 : decode b_M_tryOrders 111 = .ok (.iload 4, 2) := by decide +kernel
theorem d_M_tryOrders_113 : decode b_M_tryOrders 113 = .ok (.invokevirtual 136, 3) := by decide +kernel
theorem d_M_tryOrders_116 : decode b_M_tryOrders 116 = .ok (.ifCond .eq 22, 3) := by decide +kernel
theorem d_M_tryOrders_119 : decode b_M_tryOrders 119 = .ok (.aload_n 0, 1) := by decide +kernel
theorem d_M_tryOrders_120 : decode b_M_tryOrders 120 = .ok (.getfield 41, 3) := by decide +kernel
theorem d_M_tryOrders_123 : decode b_M_tryOrders 123 = .ok (.iload_n 3, 1) := by decide +kernel
theorem d_M_tryOrders_124 : decode b_M_tryOrders 124 = .ok (.iload 4, 2) := by decide +kernel
theorem d_M_tryOrders_126 : decode b_M_tryOrders 126 = .ok (.iastore, 1) := by decide +kernel
theorem d_M_tryOrders_127 : decode b_M_tryOrders 127 = .ok (.iload_n 3, 1) := by decide +kernel
theorem d_M_tryOrders_128 : decode b_M_tryOrders 128 = .ok (.iconst 1, 1) := by decide +kernel
theorem d_M_tryOrders_129 : decode b_M_tryOrders 129 = .ok (.iadd, 1) := by decide +kernel
theorem d_M_tryOrders_130 : decode b_M_tryOrders 130 = .ok (.istore_n 3, 1) := by decide +kernel
theorem d_M_tryOrders_131 : decode b_M_tryOrders 131 = .ok (.aload_n 0, 1) := by decide +kernel
theorem d_M_tryOrders_132 : decode b_M_tryOrders 132 = .ok (.getfield 44, 3) := by decide +kernel
theorem d_M_tryOrders_135 : decode b_M_tryOrders 135 = .ok (.iload_n 3, 1) := by decide +kernel
theorem d_M_tryOrders_136 : decode b_M_tryOrders 136 = .ok (.iconst 0, 1) := by decide +kernel
theorem d_M_tryOrders_137 : decode b_M_tryOrders 137 = .ok (.iastore, 1) := by decide +kernel
theorem d_M_tryOrders_138 : decode b_M_tryOrders 138 = .ok (.goto (-100), 3) := by decide +kernel
theorem d_M_tryOrders_141 : decode b_M_tryOrders 141 = .ok (.iload_n 3, 1) := by decide +kernel
theorem d_M_tryOrders_142 : decode b_M_tryOrders 142 = .ok (.aload_n 0, 1) := by decide +kernel
theorem d_M_tryOrders_143 : decode b_M_tryOrders 143 = .ok (.getfield 133, 3) := by decide +kernel
theorem d_M_tryOrders_146 : decode b_M_tryOrders 146 = .ok (.if_icmp .ne 7, 3) := by decide +kernel
theorem d_M_tryOrders_149 : decode b_M_tryOrders 149 = .ok (.iconst 1, 1) := by decide +kernel
theorem d_M_tryOrders_150 : decode b_M_tryOrders 150 = .ok (.goto 4, 3) := by decide +kernel
theorem d_M_tryOrders_153 : decode b_M_tryOrders 153 = .ok (.iconst 0, 1) := by decide +kernel
theorem d_M_tryOrders_154 : decode b_M_tryOrders 154 = .ok (.ireturn, 1) := by decide +kernel
abbrev y_M_tryRows : MethodName := ⟨"HistoryJudgeModel", "tryRows", "(II)Z"⟩
abbrev b_M_tryRows : ByteArray := prog_7_method_27_code
theorem d_M_tryRows_0 : decode b_M_tryRows 0 = .ok (.iconst 0, 1) := by decide +kernel
theorem d_M_tryRows_1 : decode b_M_tryRows 1 = .ok (.istore_n 3, 1) := by decide +kernel
theorem d_M_tryRows_2 : decode b_M_tryRows 2 = .ok (.aload_n 0, 1) := by decide +kernel
theorem d_M_tryRows_3 : decode b_M_tryRows 3 = .ok (.getfield 44, 3) := by decide +kernel
theorem d_M_tryRows_6 : decode b_M_tryRows 6 = .ok (.iconst 0, 1) := by decide +kernel
theorem d_M_tryRows_7 : decode b_M_tryRows 7 = .ok (.iconst 0, 1) := by decide +kernel
theorem d_M_tryRows_8 : decode b_M_tryRows 8 = .ok (.iastore, 1) := by decide +kernel
theorem d_M_tryRows_9 : decode b_M_tryRows 9 = .ok (.iload_n 3, 1) := by decide +kernel
theorem d_M_tryRows_10 : decode b_M_tryRows 10 = .ok (.ifCond .lt 89, 3) := by decide +kernel
theorem d_M_tryRows_13 : decode b_M_tryRows 13 = .ok (.aload_n 0, 1) := by decide +kernel
theorem d_M_tryRows_14 : decode b_M_tryRows 14 = .ok (.getfield 44, 3) := by decide +kernel
theorem d_M_tryRows_17 : decode b_M_tryRows 17 = .ok (.iload_n 3, 1) := by decide +kernel
theorem d_M_tryRows_18 : decode b_M_tryRows 18 = .ok (.iaload, 1) := by decide +kernel
theorem d_M_tryRows_19 : decode b_M_tryRows 19 = .ok (.istore 4, 2) := by decide +kernel
theorem d_M_tryRows_21 : decode b_M_tryRows 21 = .ok (.aload_n 0, 1) := by decide +kernel
theorem d_M_tryRows_22 : decode b_M_tryRows 22 = .ok (.getfield 44, 3) := by decide +kernel
theorem d_M_tryRows_25 : decode b_M_tryRows 25 = .ok (.iload_n 3, 1) := by decide +kernel
theorem d_M_tryRows_26 : decode b_M_tryRows 26 = .ok (.iload 4, 2) := by decide +kernel
theorem d_M_tryRows_28 : decode b_M_tryRows 28 = .ok (.iconst 1, 1) := by decide +kernel
theorem d_M_tryRows_29 : decode b_M_tryRows 29 = .ok (.iadd, 1) := by decide +kernel
theorem d_M_tryRows_30 : decode b_M_tryRows 30 = .ok (.iastore, 1) := by decide +kernel
theorem d_M_tryRows_31 : decode b_M_tryRows 31 = .ok (.iload 4, 2) := by decide +kernel
theorem d_M_tryRows_33 : decode b_M_tryRows 33 = .ok (.bipush 8, 2) := by decide +kernel
theorem d_M_tryRows_35 : decode b_M_tryRows 35 = .ok (.if_icmp .ne 10, 3) := by decide +kernel
theorem d_M_tryRows_38 : decode b_M_tryRows 38 = .ok (.iload_n 3, 1) := by decide +kernel
theorem d_M_tryRows_39 : decode b_M_tryRows 39 = .ok (.iconst 1, 1) := by decide +kernel
theorem d_M_tryRows_40 : decode b_M_tryRows 40 = .ok (.isub, 1) := by decide +kernel
theorem d_M_tryRows_41 : decode b_M_tryRows 41 = .ok (.istore_n 3, 1) := by decide +kernel
theorem d_M_tryRows_42 : decode b_M_tryRows 42 = .ok (.goto 54, 3) := by decide +kernel
theorem d_M_tryRows_45 : decode b_M_tryRows 45 = .ok (.aload_n 0, 1) := by decide +kernel
theorem d_M_tryRows_46 : decode b_M_tryRows 46 = .ok (.iload_n 1, 1) := by decide +kernel
theorem d_M_tryRows_47 : decode b_M_tryRows 47 = .ok (.iload_n 3, 1) := by decide +kernel
theorem d_M_tryRows_48 : decode b_M_tryRows 48 = .ok (.iload 4, 2) := by decide +kernel
theorem d_M_tryRows_50 : decode b_M_tryRows 50 = .ok (.invokevirtual 107, 3) := by decide +kernel
theorem d_M_tryRows_53 : decode b_M_tryRows 53 = .ok (.ifCond .eq 43, 3) := by decide +kernel
theorem d_M_tryRows_56 : decode b_M_tryRows 56 = .ok (.aload_n 0, 1) := by decide +kernel
theorem d_M_tryRows_57 : decode b_M_tryRows 57 = .ok (.getfield 41, 3) := by decide +kernel
theorem d_M_tryRows_60 : decode b_M_tryRows 60 = .ok (.iload_n 3, 1) := by decide +kernel
theorem d_M_tryRows_61 : decode b_M_tryRows 61 = .ok (.iload 4, 2) := by decide +kernel
theorem d_M_tryRows_63 : decode b_M_tryRows 63 = .ok (.iastore, 1) := by decide +kernel
theorem d_M_tryRows_64 : decode b_M_tryRows 64 = .ok (.iload_n 3, 1) := by decide +kernel
theorem d_M_tryRows_65 : decode b_M_tryRows 65 = .ok (.iconst 1, 1) := by decide +kernel
theorem d_M_tryRows_66 : decode b_M_tryRows 66 = .ok (.iadd, 1) := by decide +kernel
theorem d_M_tryRows_67 : decode b_M_tryRows 67 = .ok (.iload_n 2, 1) := by decide +kernel
theorem d_M_tryRows_68 : decode b_M_tryRows 68 = .ok (.if_icmp .ge 17, 3) := by decide +kernel
theorem d_M_tryRows_71 : decode b_M_tryRows 71 = .ok (.iload_n 3, 1) := by decide +kernel
theorem d_M_tryRows_72 : decode b_M_tryRows 72 = .ok (.iconst 1, 1) := by decide +kernel
theorem d_M_tryRows_73 : decode b_M_tryRows 73 = .ok (.iadd, 1) := by decide +kernel
theorem d_M_tryRows_74 : decode b_M_tryRows 74 = .ok (.istore_n 3, 1) := by decide +kernel
theorem d_M_tryRows_75 : decode b_M_tryRows 75 = .ok (.aload_n 0, 1) := by decide +kernel
theorem d_M_tryRows_76 : decode b_M_tryRows 76 = .ok (.getfield 44, 3) := by decide +kernel
theorem d_M_tryRows_79 : decode b_M_tryRows 79 = .ok (.iload_n 3, 1) := by decide +kernel
theorem d_M_tryRows_80 : decode b_M_tryRows 80 = .ok (.iconst 0, 1) := by decide +kernel
theorem d_M_tryRows_81 : decode b_M_tryRows 81 = .ok (.iastore, 1) := by decide +kernel
theorem d_M_tryRows_82 : decode b_M_tryRows 82 = .ok (.goto 14, 3) := by decide +kernel
theorem d_M_tryRows_85 : decode b_M_tryRows 85 = .ok (.aload_n 0, 1) := by decide +kernel
theorem d_M_tryRows_86 : decode b_M_tryRows 86 = .ok (.iload_n 1, 1) := by decide +kernel
theorem d_M_tryRows_87 : decode b_M_tryRows 87 = .ok (.iload_n 2, 1) := by decide +kernel
theorem d_M_tryRows_88 : decode b_M_tryRows 88 = .ok (.invokevirtual 111, 3) := by decide +kernel
theorem d_M_tryRows_91 : decode b_M_tryRows 91 = .ok (.ifCond .eq 5, 3) := by decide +kernel
theorem d_M_tryRows_94 : decode b_M_tryRows 94 = .ok (.iconst 1, 1) := by decide +kernel
theorem d_M_tryRows_95 : decode b_M_tryRows 95 = .ok (.ireturn, 1) := by decide +kernel
theorem d_M_tryRows_96 : decode b_M_tryRows 96 = .ok (.goto (-87), 3) := by decide +kernel
theorem d_M_tryRows_99 : decode b_M_tryRows 99 = .ok (.iconst 0, 1) := by decide +kernel
theorem d_M_tryRows_100 : decode b_M_tryRows 100 = .ok (.ireturn, 1) := by decide +kernel
abbrev y_M_version : MethodName := ⟨"HistoryJudgeModel", "version", "(II)I"⟩
abbrev b_M_version : ByteArray := prog_7_method_12_code
theorem d_M_version_0 : decode b_M_version 0 = .ok (.aload_n 0, 1) := by decide +kernel
theorem d_M_version_1 : decode b_M_version 1 = .ok (.iconst 0, 1) := by decide +kernel
theorem d_M_version_2 : decode b_M_version 2 = .ok (.putfield 50, 3) := by decide +kernel
theorem d_M_version_5 : decode b_M_version 5 = .ok (.iload_n 1, 1) := by decide +kernel
theorem d_M_version_6 : decode b_M_version 6 = .ok (.invokestatic 61, 3) := by decide +kernel
theorem d_M_version_9 : decode b_M_version 9 = .ok (.ifCond .eq 31, 3) := by decide +kernel
theorem d_M_version_12 : decode b_M_version 12 = .ok (.iload_n 2, 1) := by decide +kernel
theorem d_M_version_13 : decode b_M_version 13 = .ok (.ifCond .lt 27, 3) := by decide +kernel
theorem d_M_version_16 : decode b_M_version 16 = .ok (.iload_n 2, 1) := by decide +kernel
theorem d_M_version_17 : decode b_M_version 17 = .ok (.aload_n 0, 1) := by decide +kernel
theorem d_M_version_18 : decode b_M_version 18 = .ok (.getfield 32, 3) := by decide +kernel
theorem d_M_version_21 : decode b_M_version 21 = .ok (.iload_n 1, 1) := by decide +kernel
theorem d_M_version_22 : decode b_M_version 22 = .ok (.iaload, 1) := by decide +kernel
theorem d_M_version_23 : decode b_M_version 23 = .ok (.if_icmp .ge 17, 3) := by decide +kernel
theorem d_M_version_26 : decode b_M_version 26 = .ok (.aload_n 0, 1) := by decide +kernel
theorem d_M_version_27 : decode b_M_version 27 = .ok (.getfield 35, 3) := by decide +kernel
theorem d_M_version_30 : decode b_M_version 30 = .ok (.bipush 8, 2) := by decide +kernel
theorem d_M_version_32 : decode b_M_version 32 = .ok (.iload_n 1, 1) := by decide +kernel
theorem d_M_version_33 : decode b_M_version 33 = .ok (.imul, 1) := by decide +kernel
theorem d_M_version_34 : decode b_M_version 34 = .ok (.iload_n 2, 1) := by decide +kernel
theorem d_M_version_35 : decode b_M_version 35 = .ok (.iadd, 1) := by decide +kernel
theorem d_M_version_36 : decode b_M_version 36 = .ok (.iaload, 1) := by decide +kernel
theorem d_M_version_37 : decode b_M_version 37 = .ok (.goto 4, 3) := by decide +kernel
theorem d_M_version_40 : decode b_M_version 40 = .ok (.iconst (-1), 1) := by decide +kernel
theorem d_M_version_41 : decode b_M_version 41 = .ok (.ireturn, 1) := by decide +kernel
abbrev y_M_write : MethodName := ⟨"HistoryJudgeModel", "write", "(II)I"⟩
abbrev b_M_write : ByteArray := prog_7_method_6_code
theorem d_M_write_0 : decode b_M_write 0 = .ok (.aload_n 0, 1) := by decide +kernel
theorem d_M_write_1 : decode b_M_write 1 = .ok (.iload_n 1, 1) := by decide +kernel
theorem d_M_write_2 : decode b_M_write 2 = .ok (.invokestatic 57, 3) := by decide +kernel
theorem d_M_write_5 : decode b_M_write 5 = .ok (.ifCond .eq 10, 3) := by decide +kernel
theorem d_M_write_8 : decode b_M_write 8 = .ok (.iload_n 2, 1) := by decide +kernel
theorem d_M_write_9 : decode b_M_write 9 = .ok (.invokestatic 61, 3) := by decide +kernel
theorem d_M_write_12 : decode b_M_write 12 = .ok (.ifCond .ne 7, 3) := by decide +kernel
theorem d_M_write_15 : decode b_M_write 15 = .ok (.iconst 1, 1) := by decide +kernel
theorem d_M_write_16 : decode b_M_write 16 = .ok (.goto 31, 3) := by decide +kernel
theorem d_M_write_19 : decode b_M_write 19 = .ok (.aload_n 0, 1) := by decide +kernel
theorem d_M_write_20 : decode b_M_write 20 = .ok (.getfield 7, 3) := by decide +kernel
theorem d_M_write_23 : decode b_M_write 23 = .ok (.iload_n 1, 1) := by decide +kernel
theorem d_M_write_24 : decode b_M_write 24 = .ok (.iaload, 1) := by decide +kernel
theorem d_M_write_25 : decode b_M_write 25 = .ok (.iconst 1, 1) := by decide +kernel
theorem d_M_write_26 : decode b_M_write 26 = .ok (.if_icmp .le 7, 3) := by decide +kernel
theorem d_M_write_29 : decode b_M_write 29 = .ok (.iconst 2, 1) := by decide +kernel
theorem d_M_write_30 : decode b_M_write 30 = .ok (.goto 17, 3) := by decide +kernel
theorem d_M_write_33 : decode b_M_write 33 = .ok (.aload_n 0, 1) := by decide +kernel
theorem d_M_write_34 : decode b_M_write 34 = .ok (.getfield 64, 3) := by decide +kernel
theorem d_M_write_37 : decode b_M_write 37 = .ok (.bipush 40, 2) := by decide +kernel
theorem d_M_write_39 : decode b_M_write 39 = .ok (.if_icmp .ne 7, 3) := by decide +kernel
theorem d_M_write_42 : decode b_M_write 42 = .ok (.iconst 3, 1) := by decide +kernel
theorem d_M_write_43 : decode b_M_write 43 = .ok (.goto 4, 3) := by decide +kernel
theorem d_M_write_46 : decode b_M_write 46 = .ok (.iconst 0, 1) := by decide +kernel
theorem d_M_write_47 : decode b_M_write 47 = .ok (.putfield 50, 3) := by decide +kernel
theorem d_M_write_50 : decode b_M_write 50 = .ok (.aload_n 0, 1) := by decide +kernel
theorem d_M_write_51 : decode b_M_write 51 = .ok (.getfield 50, 3) := by decide +kernel
theorem d_M_write_54 : decode b_M_write 54 = .ok (.ifCond .le 5, 3) := by decide +kernel
theorem d_M_write_57 : decode b_M_write 57 = .ok (.iconst 0, 1) := by decide +kernel
theorem d_M_write_58 : decode b_M_write 58 = .ok (.ireturn, 1) := by decide +kernel
theorem d_M_write_59 : decode b_M_write 59 = .ok (.aload_n 0, 1) := by decide +kernel
theorem d_M_write_60 : decode b_M_write 60 = .ok (.getfield 13, 3) := by decide +kernel
theorem d_M_write_63 : decode b_M_write 63 = .ok (.aload_n 0, 1) := by decide +kernel
theorem d_M_write_64 : decode b_M_write 64 = .ok (.getfield 64, 3) := by decide +kernel
theorem d_M_write_67 : decode b_M_write 67 = .ok (.iload_n 1, 1) := by decide +kernel
theorem d_M_write_68 : decode b_M_write 68 = .ok (.iastore, 1) := by decide +kernel
theorem d_M_write_69 : decode b_M_write 69 = .ok (.aload_n 0, 1) := by decide +kernel
theorem d_M_write_70 : decode b_M_write 70 = .ok (.getfield 16, 3) := by decide +kernel
theorem d_M_write_73 : decode b_M_write 73 = .ok (.aload_n 0, 1) := by decide +kernel
theorem d_M_write_74 : decode b_M_write 74 = .ok (.getfield 64, 3) := by decide +kernel
theorem d_M_write_77 : decode b_M_write 77 = .ok (.iload_n 2, 1) := by decide +kernel
theorem d_M_write_78 : decode b_M_write 78 = .ok (.iastore, 1) := by decide +kernel
theorem d_M_write_79 : decode b_M_write 79 = .ok (.aload_n 0, 1) := by decide +kernel
theorem d_M_write_80 : decode b_M_write 80 = .ok (.iload_n 1, 1) := by decide +kernel
theorem d_M_write_81 : decode b_M_write 81 = .ok (.iload_n 2, 1) := by decide +kernel
theorem d_M_write_82 : decode b_M_write 82 = .ok (.aload_n 0, 1) := by decide +kernel
theorem d_M_write_83 : decode b_M_write 83 = .ok (.getfield 64, 3) := by decide +kernel
theorem d_M_write_86 : decode b_M_write 86 = .ok (.iconst 1, 1) := by decide +kernel
theorem d_M_write_87 : decode b_M_write 87 = .ok (.invokevirtual 67, 3) := by decide +kernel
theorem d_M_write_90 : decode b_M_write 90 = .ok (.aload_n 0, 1) := by decide +kernel
theorem d_M_write_91 : decode b_M_write 91 = .ok (.aload_n 0, 1) := by decide +kernel
theorem d_M_write_92 : decode b_M_write 92 = .ok (.getfield 64, 3) := by decide +kernel
theorem d_M_write_95 : decode b_M_write 95 = .ok (.iconst 1, 1) := by decide +kernel
theorem d_M_write_96 : decode b_M_write 96 = .ok (.iadd, 1) := by decide +kernel
theorem d_M_write_97 : decode b_M_write 97 = .ok (.putfield 64, 3) := by decide +kernel
theorem d_M_write_100 : decode b_M_write 100 = .ok (.aload_n 0, 1) := by decide +kernel
theorem d_M_write_101 : decode b_M_write 101 = .ok (.getfield 64, 3) := by decide +kernel
theorem d_M_write_104 : decode b_M_write 104 = .ok (.iconst 1, 1) := by decide +kernel
theorem d_M_write_105 : decode b_M_write 105 = .ok (.isub, 1) := by decide +kernel
theorem d_M_write_106 : decode b_M_write 106 = .ok (.ireturn, 1) := by decide +kernel
abbrev y_S_canBeEnded : MethodName := ⟨"HistoryJudge$SerialSearch", "canBeEnded", "(I)Z"⟩
abbrev b_S_canBeEnded : ByteArray := prog_5_method_11_code
theorem d_S_canBeEnded_0 : decode b_S_canBeEnded 0 = .ok (.iload_n 1, 1) := by decide +kernel
theorem d_S_canBeEnded_1 : decode b_S_canBeEnded 1 = .ok (.aload_n 0, 1) := by decide +kernel
theorem d_S_canBeEnded_2 : decode b_S_canBeEnded 2 = .ok (.getfield 31, 3) := by decide +kernel
theorem d_S_canBeEnded_5 : decode b_S_canBeEnded 5 = .ok (.if_icmp .eq 12, 3) := by decide +kernel
theorem d_S_canBeEnded_8 : decode b_S_canBeEnded 8 = .ok (.aload_n 0, 1) := by decide +kernel
theorem d_S_canBeEnded_9 : decode b_S_canBeEnded 9 = .ok (.getfield 20, 3) := by decide +kernel
theorem d_S_canBeEnded_12 : decode b_S_canBeEnded 12 = .ok (.iload_n 1, 1) := by decide +kernel
theorem d_S_canBeEnded_13 : decode b_S_canBeEnded 13 = .ok (.iaload, 1) := by decide +kernel
theorem d_S_canBeEnded_14 : decode b_S_canBeEnded 14 = .ok (.ifCond .eq 7, 3) := by decide +kernel
theorem d_S_canBeEnded_17 : decode b_S_canBeEnded 17 = .ok (.iconst 1, 1) := by decide +kernel
theorem d_S_canBeEnded_18 : decode b_S_canBeEnded 18 = .ok (.goto 4, 3) := by decide +kernel
theorem d_S_canBeEnded_21 : decode b_S_canBeEnded 21 = .ok (.iconst 0, 1) := by decide +kernel
theorem d_S_canBeEnded_22 : decode b_S_canBeEnded 22 = .ok (.ireturn, 1) := by decide +kernel
abbrev y_S_explore : MethodName := ⟨"HistoryJudge$SerialSearch", "explore", "(LHistoryJudge$History;)V"⟩
abbrev b_S_explore : ByteArray := prog_5_method_2_code
theorem d_S_explore_0 : decode b_S_explore 0 = .ok (.aload_n 0, 1) := by decide +kernel
theorem d_S_explore_1 : decode b_S_explore 1 = .ok (.aload_n 1, 1) := by decide +kernel
theorem d_S_explore_2 : decode b_S_explore 2 = .ok (.invokevirtual 23, 3) := by decide +kernel
theorem d_S_explore_5 : decode b_S_explore 5 = .ok (.aload_n 0, 1) := by decide +kernel
theorem d_S_explore_6 : decode b_S_explore 6 = .ok (.getfield 20, 3) := by decide +kernel
theorem d_S_explore_9 : decode b_S_explore 9 = .ok (.arraylength, 1) := by decide +kernel
theorem d_S_explore_10 : decode b_S_explore 10 = .ok (.iconst 1, 1) := by decide +kernel
theorem d_S_explore_11 : decode b_S_explore 11 = .ok (.isub, 1) := by decide +kernel
theorem d_S_explore_12 : decode b_S_explore 12 = .ok (.istore_n 2, 1) := by decide +kernel
theorem d_S_explore_13 : decode b_S_explore 13 = .ok (.iload_n 2, 1) := by decide +kernel
theorem d_S_explore_14 : decode b_S_explore 14 = .ok (.ifCond .lt 52, 3) := by decide +kernel
theorem d_S_explore_17 : decode b_S_explore 17 = .ok (.aload_n 0, 1) := by decide +kernel
theorem d_S_explore_18 : decode b_S_explore 18 = .ok (.getfield 27, 3) := by decide +kernel
theorem d_S_explore_21 : decode b_S_explore 21 = .ok (.ifCond .eq 18, 3) := by decide +kernel
theorem d_S_explore_24 : decode b_S_explore 24 = .ok (.iload_n 2, 1) := by decide +kernel
theorem d_S_explore_25 : decode b_S_explore 25 = .ok (.aload_n 0, 1) := by decide +kernel
theorem d_S_explore_26 : decode b_S_explore 26 = .ok (.getfield 31, 3) := by decide +kernel
theorem d_S_explore_29 : decode b_S_explore 29 = .ok (.iconst (-1), 1) := by decide +kernel
theorem d_S_explore_30 : decode b_S_explore 30 = .ok (.ixor, 1) := by decide +kernel
theorem d_S_explore_31 : decode b_S_explore 31 = .ok (.iand, 1) := by decide +kernel
theorem d_S_explore_32 : decode b_S_explore 32 = .ok (.ifCond .ne 7, 3) := by decide +kernel
theorem d_S_explore_35 : decode b_S_explore 35 = .ok (.iconst 1, 1) := by decide +kernel
theorem d_S_explore_36 : decode b_S_explore 36 = .ok (.goto 4, 3) := by decide +kernel
theorem d_S_explore_39 : decode b_S_explore 39 = .ok (.iconst 0, 1) := by decide +kernel
theorem d_S_explore_40 : decode b_S_explore 40 = .ok (.istore_n 3, 1) := by decide +kernel
theorem d_S_explore_41 : decode b_S_explore 41 = .ok (.aload_n 0, 1) := by decide +kernel
theorem d_S_explore_42 : decode b_S_explore 42 = .ok (.getfield 20, 3) := by decide +kernel
theorem d_S_explore_45 : decode b_S_explore 45 = .ok (.iload_n 2, 1) := by decide +kernel
theorem d_S_explore_46 : decode b_S_explore 46 = .ok (.iload_n 3, 1) := by decide +kernel
theorem d_S_explore_47 : decode b_S_explore 47 = .ok (.ifCond .eq 11, 3) := by decide +kernel
theorem d_S_explore_50 : decode b_S_explore 50 = .ok (.aload_n 0, 1) := by decide +kernel
theorem d_S_explore_51 : decode b_S_explore 51 = .ok (.iload_n 2, 1) := by decide +kernel
theorem d_S_explore_52 : decode b_S_explore 52 = .ok (.invokevirtual 35, 3) := by decide +kernel
theorem d_S_explore_55 : decode b_S_explore 55 = .ok (.goto 4, 3) := by decide +kernel
theorem d_S_explore_58 : decode b_S_explore 58 = .ok (.iconst 0, 1) := by decide +kernel
theorem d_S_explore_59 : decode b_S_explore 59 = .ok (.iastore, 1) := by decide +kernel
theorem d_S_explore_60 : decode b_S_explore 60 = .ok (.iinc 2 (-1), 3) := by decide +kernel
theorem d_S_explore_63 : decode b_S_explore 63 = .ok (.goto (-50), 3) := by decide +kernel
theorem d_S_explore_66 : decode b_S_explore 66 = .ok (.return_, 1) := by decide +kernel
abbrev y_S_followers : MethodName := ⟨"HistoryJudge$SerialSearch", "followers", "(I)I"⟩
abbrev b_S_followers : ByteArray := prog_5_method_9_code
theorem d_S_followers_0 : decode b_S_followers 0 = .ok (.iconst 0, 1) := by decide +kernel
theorem d_S_followers_1 : decode b_S_followers 1 = .ok (.istore_n 2, 1) := by decide +kernel
theorem d_S_followers_2 : decode b_S_followers 2 = .ok (.iconst 0, 1) := by decide +kernel
theorem d_S_followers_3 : decode b_S_followers 3 = .ok (.istore_n 3, 1) := by decide +kernel
theorem d_S_followers_4 : decode b_S_followers 4 = .ok (.iload_n 3, 1) := by decide +kernel
theorem d_S_followers_5 : decode b_S_followers 5 = .ok (.bipush 8, 2) := by decide +kernel
theorem d_S_followers_7 : decode b_S_followers 7 = .ok (.if_icmp .ge 69, 3) := by decide +kernel
theorem d_S_followers_10 : decode b_S_followers 10 = .ok (.aload_n 0, 1) := by decide +kernel
theorem d_S_followers_11 : decode b_S_followers 11 = .ok (.getfield 31, 3) := by decide +kernel
theorem d_S_followers_14 : decode b_S_followers 14 = .ok (.iload_n 3, 1) := by decide +kernel
theorem d_S_followers_15 : decode b_S_followers 15 = .ok (.invokestatic 105, 3) := by decide +kernel
theorem d_S_followers_18 : decode b_S_followers 18 = .ok (.ifCond .eq 15, 3) := by decide +kernel
theorem d_S_followers_21 : decode b_S_followers 21 = .ok (.iload_n 1, 1) := by decide +kernel
theorem d_S_followers_22 : decode b_S_followers 22 = .ok (.iload_n 3, 1) := by decide +kernel
theorem d_S_followers_23 : decode b_S_followers 23 = .ok (.invokestatic 105, 3) := by decide +kernel
theorem d_S_followers_26 : decode b_S_followers 26 = .ok (.ifCond .ne 7, 3) := by decide +kernel
theorem d_S_followers_29 : decode b_S_followers 29 = .ok (.iconst 1, 1) := by decide +kernel
theorem d_S_followers_30 : decode b_S_followers 30 = .ok (.goto 4, 3) := by decide +kernel
theorem d_S_followers_33 : decode b_S_followers 33 = .ok (.iconst 0, 1) := by decide +kernel
theorem d_S_followers_34 : decode b_S_followers 34 = .ok (.istore 4, 2) := by decide +kernel
theorem d_S_followers_36 : decode b_S_followers 36 = .ok (.iload 4, 2) := by decide +kernel
theorem d_S_followers_38 : decode b_S_followers 38 = .ok (.ifCond .eq 32, 3) := by decide +kernel
theorem d_S_followers_41 : decode b_S_followers 41 = .ok (.aload_n 0, 1) := by decide +kernel
theorem d_S_followers_42 : decode b_S_followers 42 = .ok (.iload_n 3, 1) := by decide +kernel
theorem d_S_followers_43 : decode b_S_followers 43 = .ok (.iload_n 1, 1) := by decide +kernel
theorem d_S_followers_44 : decode b_S_followers 44 = .ok (.invokevirtual 112, 3) := by decide +kernel
theorem d_S_followers_47 : decode b_S_followers 47 = .ok (.ifCond .eq 23, 3) := by decide +kernel
theorem d_S_followers_50 : decode b_S_followers 50 = .ok (.aload_n 0, 1) := by decide +kernel
theorem d_S_followers_51 : decode b_S_followers 51 = .ok (.iload_n 1, 1) := by decide +kernel
theorem d_S_followers_52 : decode b_S_followers 52 = .ok (.iload_n 3, 1) := by decide +kernel
theorem d_S_followers_53 : decode b_S_followers 53 = .ok (.invokestatic 55, 3) := by decide +kernel
theorem d_S_followers_56 : decode b_S_followers 56 = .ok (.ior, 1) := by decide +kernel
theorem d_S_followers_57 : decode b_S_followers 57 = .ok (.invokevirtual 39, 3) := by decide +kernel
theorem d_S_followers_60 : decode b_S_followers 60 = .ok (.ifCond .eq 10, 3) := by decide +kernel
theorem d_S_followers_63 : decode b_S_followers 63 = .ok (.iload_n 2, 1) := by decide +kernel
theorem d_S_followers_64 : decode b_S_followers 64 = .ok (.iload_n 3, 1) := by decide +kernel
theorem d_S_followers_65 : decode b_S_followers 65 = .ok (.invokestatic 55, 3) := by decide +kernel
theorem d_S_followers_68 : decode b_S_followers 68 = .ok (.ior, 1) := by decide +kernel
theorem d_S_followers_69 : decode b_S_followers 69 = .ok (.istore_n 2, 1) := by decide +kernel
theorem d_S_followers_70 : decode b_S_followers 70 = .ok (.iinc 3 1, 3) := by decide +kernel
theorem d_S_followers_73 : decode b_S_followers 73 = .ok (.goto (-69), 3) := by decide +kernel
theorem d_S_followers_76 : decode b_S_followers 76 = .ok (.iload_n 2, 1) := by decide +kernel
theorem d_S_followers_77 : decode b_S_followers 77 = .ok (.ireturn, 1) := by decide +kernel
abbrev y_S_init : MethodName := ⟨"HistoryJudge$SerialSearch", "<init>", "()V"⟩
abbrev b_S_init : ByteArray := prog_5_method_1_code
theorem d_S_init_0 : decode b_S_init 0 = .ok (.aload_n 0, 1) := by decide +kernel
theorem d_S_init_1 : decode b_S_init 1 = .ok (.invokespecial 3, 3) := by decide +kernel
theorem d_S_init_4 : decode b_S_init 4 = .ok (.aload_n 0, 1) := by decide +kernel
theorem d_S_init_5 : decode b_S_init 5 = .ok (.bipush 8, 2) := by decide +kernel
theorem d_S_init_7 : decode b_S_init 7 = .ok (.newarray .int, 2) := by decide +kernel
theorem d_S_init_9 : decode b_S_init 9 = .ok (.putfield 9, 3) := by decide +kernel
theorem d_S_init_12 : decode b_S_init 12 = .ok (.aload_n 0, 1) := by decide +kernel
theorem d_S_init_13 : decode b_S_init 13 = .ok (.bipush 8, 2) := by decide +kernel
theorem d_S_init_15 : decode b_S_init 15 = .ok (.bipush 8, 2) := by decide +kernel
theorem d_S_init_17 : decode b_S_init 17 = .ok (.multianewarray 15 2, 4) := by decide +kernel
theorem d_S_init_21 : decode b_S_init 21 = .ok (.putfield 17, 3) := by decide +kernel
theorem d_S_init_24 : decode b_S_init 24 = .ok (.aload_n 0, 1) := by decide +kernel
theorem d_S_init_25 : decode b_S_init 25 = .ok (.sipush 256, 3) := by decide +kernel
theorem d_S_init_28 : decode b_S_init 28 = .ok (.newarray .int, 2) := by decide +kernel
theorem d_S_init_30 : decode b_S_init 30 = .ok (.putfield 20, 3) := by decide +kernel
theorem d_S_init_33 : decode b_S_init 33 = .ok (.return_, 1) := by decide +kernel
abbrev y_S_isPossible : MethodName := ⟨"HistoryJudge$SerialSearch", "isPossible", "()Z"⟩
abbrev b_S_isPossible : ByteArray := prog_5_method_3_code
theorem d_S_isPossible_0 : decode b_S_isPossible 0 = .ok (.aload_n 0, 1) := by decide +kernel
theorem d_S_isPossible_1 : decode b_S_isPossible 1 = .ok (.getfield 27, 3) := by decide +kernel
theorem d_S_isPossible_4 : decode b_S_isPossible 4 = .ok (.ifCond .eq 15, 3) := by decide +kernel
theorem d_S_isPossible_7 : decode b_S_isPossible 7 = .ok (.aload_n 0, 1) := by decide +kernel
theorem d_S_isPossible_8 : decode b_S_isPossible 8 = .ok (.iconst 0, 1) := by decide +kernel
theorem d_S_isPossible_9 : decode b_S_isPossible 9 = .ok (.invokevirtual 39, 3) := by decide +kernel
theorem d_S_isPossible_12 : decode b_S_isPossible 12 = .ok (.ifCond .eq 7, 3) := by decide +kernel
theorem d_S_isPossible_15 : decode b_S_isPossible 15 = .ok (.iconst 1, 1) := by decide +kernel
theorem d_S_isPossible_16 : decode b_S_isPossible 16 = .ok (.goto 4, 3) := by decide +kernel
theorem d_S_isPossible_19 : decode b_S_isPossible 19 = .ok (.iconst 0, 1) := by decide +kernel
theorem d_S_isPossible_20 : decode b_S_isPossible 20 = .ok (.ireturn, 1) := by decide +kernel
abbrev y_S_mayFollow : MethodName := ⟨"HistoryJudge$SerialSearch", "mayFollow", "(II)Z"⟩
abbrev b_S_mayFollow : ByteArray := prog_5_method_10_code
theorem d_S_mayFollow_0 : decode b_S_mayFollow 0 = .ok (.aload_n 0, 1) := by decide +kernel
theorem d_S_mayFollow_1 : decode b_S_mayFollow 1 = .ok (.getfield 9, 3) := by decide +kernel
theorem d_S_mayFollow_4 : decode b_S_mayFollow 4 = .ok (.iload_n 1, 1) := by decide +kernel
theorem d_S_mayFollow_5 : decode b_S_mayFollow 5 = .ok (.iaload, 1) := by decide +kernel
theorem d_S_mayFollow_6 : decode b_S_mayFollow 6 = .ok (.iload_n 2, 1) := by decide +kernel
theorem d_S_mayFollow_7 : decode b_S_mayFollow 7 = .ok (.iconst (-1), 1) := by decide +kernel
theorem d_S_mayFollow_8 : decode b_S_mayFollow 8 = .ok (.ixor, 1) := by decide +kernel
theorem d_S_mayFollow_9 : decode b_S_mayFollow 9 = .ok (.iand, 1) := by decide +kernel
theorem d_S_mayFollow_10 : decode b_S_mayFollow 10 = .ok (.ifCond .eq 5, 3) := by decide +kernel
theorem d_S_mayFollow_13 : decode b_S_mayFollow 13 = .ok (.iconst 0, 1) := by decide +kernel
theorem d_S_mayFollow_14 : decode b_S_mayFollow 14 = .ok (.ireturn, 1) := by decide +kernel
theorem d_S_mayFollow_15 : decode b_S_mayFollow 15 = .ok (.iconst 0, 1) := by decide +kernel
theorem d_S_mayFollow_16 : decode b_S_mayFollow 16 = .ok (.istore_n 3, 1) := by decide +kernel
theorem d_S_mayFollow_17 : decode b_S_mayFollow 17 = .ok (.iload_n 3, 1) := by decide +kernel
theorem d_S_mayFollow_18 : decode b_S_mayFollow 18 = .ok (.bipush 8, 2) := by decide +kernel
theorem d_S_mayFollow_20 : decode b_S_mayFollow 20 = .ok (.if_icmp .ge 34, 3) := by decide +kernel
theorem d_S_mayFollow_23 : decode b_S_mayFollow 23 = .ok (.iload_n 2, 1) := by decide +kernel
theorem d_S_mayFollow_24 : decode b_S_mayFollow 24 = .ok (.iload_n 3, 1) := by decide +kernel
theorem d_S_mayFollow_25 : decode b_S_mayFollow 25 = .ok (.invokestatic 105, 3) := by decide +kernel
theorem d_S_mayFollow_28 : decode b_S_mayFollow 28 = .ok (.ifCond .eq 20, 3) := by decide +kernel
theorem d_S_mayFollow_31 : decode b_S_mayFollow 31 = .ok (.aload_n 0, 1) := by decide +kernel
theorem d_S_mayFollow_32 : decode b_S_mayFollow 32 = .ok (.getfield 17, 3) := by decide +kernel
theorem d_S_mayFollow_35 : decode b_S_mayFollow 35 = .ok (.iload_n 3, 1) := by decide +kernel
theorem d_S_mayFollow_36 : decode b_S_mayFollow 36 = .ok (.aaload, 1) := by decide +kernel
theorem d_S_mayFollow_37 : decode b_S_mayFollow 37 = .ok (.iload_n 1, 1) := by decide +kernel
theorem d_S_mayFollow_38 : decode b_S_mayFollow 38 = .ok (.iaload, 1) := by decide +kernel
theorem d_S_mayFollow_39 : decode b_S_mayFollow 39 = .ok (.iload_n 2, 1) := by decide +kernel
theorem d_S_mayFollow_40 : decode b_S_mayFollow 40 = .ok (.iconst (-1), 1) := by decide +kernel
theorem d_S_mayFollow_41 : decode b_S_mayFollow 41 = .ok (.ixor, 1) := by decide +kernel
theorem d_S_mayFollow_42 : decode b_S_mayFollow 42 = .ok (.iand, 1) := by decide +kernel
theorem d_S_mayFollow_43 : decode b_S_mayFollow 43 = .ok (.ifCond .eq 5, 3) := by decide +kernel
theorem d_S_mayFollow_46 : decode b_S_mayFollow 46 = .ok (.iconst 0, 1) := by decide +kernel
theorem d_S_mayFollow_47 : decode b_S_mayFollow 47 = .ok (.ireturn, 1) := by decide +kernel
theorem d_S_mayFollow_48 : decode b_S_mayFollow 48 = .ok (.iinc 3 1, 3) := by decide +kernel
theorem d_S_mayFollow_51 : decode b_S_mayFollow 51 = .ok (.goto (-34), 3) := by decide +kernel
theorem d_S_mayFollow_54 : decode b_S_mayFollow 54 = .ok (.iconst 1, 1) := by decide +kernel
theorem d_S_mayFollow_55 : decode b_S_mayFollow 55 = .ok (.ireturn, 1) := by decide +kernel
abbrev y_S_takeFirstRead : MethodName := ⟨"HistoryJudge$SerialSearch", "takeFirstRead", "(LHistoryJudge$History;II)V"⟩
abbrev b_S_takeFirstRead : ByteArray := prog_5_method_7_code
theorem d_S_takeFirstRead_0 : decode b_S_takeFirstRead 0 = .ok (.iconst 0, 1) := by decide +kernel
theorem d_S_takeFirstRead_1 : decode b_S_takeFirstRead 1 = .ok (.istore 4, 2) := by decide +kernel
theorem d_S_takeFirstRead_3 : decode b_S_takeFirstRead 3 = .ok (.iload 4, 2) := by decide +kernel
theorem d_S_takeFirstRead_5 : decode b_S_takeFirstRead 5 = .ok (.bipush 8, 2) := by decide +kernel
theorem d_S_takeFirstRead_7 : decode b_S_takeFirstRead 7 = .ok (.if_icmp .ge 51, 3) := by decide +kernel
theorem d_S_takeFirstRead_10 : decode b_S_takeFirstRead 10 = .ok (.iload 4, 2) := by decide +kernel
theorem d_S_takeFirstRead_12 : decode b_S_takeFirstRead 12 = .ok (.iload_n 2, 1) := by decide +kernel
theorem d_S_takeFirstRead_13 : decode b_S_takeFirstRead 13 = .ok (.if_icmp .eq 39, 3) := by decide +kernel
theorem d_S_takeFirstRead_16 : decode b_S_takeFirstRead 16 = .ok (.aload_n 0, 1) := by decide +kernel
theorem d_S_takeFirstRead_17 : decode b_S_takeFirstRead 17 = .ok (.getfield 31, 3) := by decide +kernel
theorem d_S_takeFirstRead_20 : decode b_S_takeFirstRead 20 = .ok (.iload 4, 2) := by decide +kernel
theorem d_S_takeFirstRead_22 : decode b_S_takeFirstRead 22 = .ok (.invokestatic 105, 3) := by decide +kernel
theorem d_S_takeFirstRead_25 : decode b_S_takeFirstRead 25 = .ok (.ifCond .eq 27, 3) := by decide +kernel
theorem d_S_takeFirstRead_28 : decode b_S_takeFirstRead 28 = .ok (.aload_n 1, 1) := by decide +kernel
theorem d_S_takeFirstRead_29 : decode b_S_takeFirstRead 29 = .ok (.iload 4, 2) := by decide +kernel
theorem d_S_takeFirstRead_31 : decode b_S_takeFirstRead 31 = .ok (.iload_n 3, 1) := by decide +kernel
theorem d_S_takeFirstRead_32 : decode b_S_takeFirstRead 32 = .ok (.invokevirtual 109, 3) := by decide +kernel
theorem d_S_takeFirstRead_35 : decode b_S_takeFirstRead 35 = .ok (.ifCond .eq 17, 3) := by decide +kernel
theorem d_S_takeFirstRead_38 : decode b_S_takeFirstRead 38 = .ok (.aload_n 0, 1) := by decide +kernel
theorem d_S_takeFirstRead_39 : decode b_S_takeFirstRead 39 = .ok (.getfield 9, 3) := by decide +kernel
theorem d_S_takeFirstRead_42 : decode b_S_takeFirstRead 42 = .ok (.iload 4, 2) := by decide +kernel
theorem d_S_takeFirstRead_44 : decode b_S_takeFirstRead 44 = .ok (.dup2, 1) := by decide +kernel
theorem d_S_takeFirstRead_45 : decode b_S_takeFirstRead 45 = .ok (.iaload, 1) := by decide +kernel
theorem d_S_takeFirstRead_46 : decode b_S_takeFirstRead 46 = .ok (.iload_n 2, 1) := by decide +kernel
theorem d_S_takeFirstRead_47 : decode b_S_takeFirstRead 47 = .ok (.invokestatic 55, 3) := by decide +kernel
theorem d_S_takeFirstRead_50 : decode b_S_takeFirstRead 50 = .ok (.ior, 1) := by decide +kernel
theorem d_S_takeFirstRead_51 : decode b_S_takeFirstRead 51 = .ok (.iastore, 1) := by decide +kernel
theorem d_S_takeFirstRead_52 : decode b_S_takeFirstRead 52 = .ok (.iinc 4 1, 3) := by decide +kernel
theorem d_S_takeFirstRead_55 : decode b_S_takeFirstRead 55 = .ok (.goto (-52), 3) := by decide +kernel
theorem d_S_takeFirstRead_58 : decode b_S_takeFirstRead 58 = .ok (.return_, 1) := by decide +kernel
abbrev y_S_takeForeignRead : MethodName := ⟨"HistoryJudge$SerialSearch", "takeForeignRead", "(LHistoryJudge$History;II)V"⟩
abbrev b_S_takeForeignRead : ByteArray := prog_5_method_8_code
theorem d_S_takeForeignRead_0 : decode b_S_takeForeignRead 0 = .ok (.aload_n 1, 1) := by decide +kernel
theorem d_S_takeForeignRead_1 : decode b_S_takeForeignRead 1 = .ok (.getfield 73, 3) := by decide +kernel
theorem d_S_takeForeignRead_4 : decode b_S_takeForeignRead 4 = .ok (.iload_n 2, 1) := by decide +kernel
theorem d_S_takeForeignRead_5 : decode b_S_takeForeignRead 5 = .ok (.iaload, 1) := by decide +kernel
theorem d_S_takeForeignRead_6 : decode b_S_takeForeignRead 6 = .ok (.istore 4, 2) := by decide +kernel
theorem d_S_takeForeignRead_8 : decode b_S_takeForeignRead 8 = .ok (.aload_n 1, 1) := by decide +kernel
theorem d_S_takeForeignRead_9 : decode b_S_takeForeignRead 9 = .ok (.getfield 89, 3) := by decide +kernel
theorem d_S_takeForeignRead_12 : decode b_S_takeForeignRead 12 = .ok (.iload_n 2, 1) := by decide +kernel
theorem d_S_takeForeignRead_13 : decode b_S_takeForeignRead 13 = .ok (.iaload, 1) := by decide +kernel
theorem d_S_takeForeignRead_14 : decode b_S_takeForeignRead 14 = .ok (.istore 5, 2) := by decide +kernel
theorem d_S_takeForeignRead_16 : decode b_S_takeForeignRead 16 = .ok (.aload_n 0, 1) := by decide +kernel
theorem d_S_takeForeignRead_17 : decode b_S_takeForeignRead 17 = .ok (.getfield 9, 3) := by decide +kernel
theorem d_S_takeForeignRead_20 : decode b_S_takeForeignRead 20 = .ok (.iload 4, 2) := by decide +kernel
theorem d_S_takeForeignRead_22 : decode b_S_takeForeignRead 22 = .ok (.dup2, 1) := by decide +kernel
theorem d_S_takeForeignRead_23 : decode b_S_takeForeignRead 23 = .ok (.iaload, 1) := by decide +kernel
theorem d_S_takeForeignRead_24 : decode b_S_takeForeignRead 24 = .ok (.iload_n 3, 1) := by decide +kernel
theorem d_S_takeForeignRead_25 : decode b_S_takeForeignRead 25 = .ok (.invokestatic 55, 3) := by decide +kernel
theorem d_S_takeForeignRead_28 : decode b_S_takeForeignRead 28 = .ok (.ior, 1) := by decide +kernel
theorem d_S_takeForeignRead_29 : decode b_S_takeForeignRead 29 = .ok (.iastore, 1) := by decide +kernel
theorem d_S_takeForeignRead_30 : decode b_S_takeForeignRead 30 = .ok (.iconst 0, 1) := by decide +kernel
theorem d_S_takeForeignRead_31 : decode b_S_takeForeignRead 31 = .ok (.istore 6, 2) := by decide +kernel
theorem d_S_takeForeignRead_33 : decode b_S_takeForeignRead 33 = .ok (.iload 6, 2) := by decide +kernel
theorem d_S_takeForeignRead_35 : decode b_S_takeForeignRead 35 = .ok (.bipush 8, 2) := by decide +kernel
theorem d_S_takeForeignRead_37 : decode b_S_takeForeignRead 37 = .ok (.if_icmp .ge 50, 3) := by decide +kernel
theorem d_S_takeForeignRead_40 : decode b_S_takeForeignRead 40 = .ok (.iload 6, 2) := by decide +kernel
theorem d_S_takeForeignRead_42 : decode b_S_takeForeignRead 42 = .ok (.iload 4, 2) := by decide +kernel
theorem d_S_takeForeignRead_44 : decode b_S_takeForeignRead 44 = .ok (.if_icmp .eq 37, 3) := by decide +kernel
theorem d_S_takeForeignRead_47 : decode b_S_takeForeignRead 47 = .ok (.iload 6, 2) := by decide +kernel
theorem d_S_takeForeignRead_49 : decode b_S_takeForeignRead 49 = .ok (.iload_n 3, 1) := by decide +kernel
theorem d_S_takeForeignRead_50 : decode b_S_takeForeignRead 50 = .ok (.if_icmp .eq 31, 3) := by decide +kernel
theorem d_S_takeForeignRead_53 : decode b_S_takeForeignRead 53 = .ok (.aload_n 1, 1) := by decide +kernel
theorem d_S_takeForeignRead_54 : decode b_S_takeForeignRead 54 = .ok (.iload 6, 2) := by decide +kernel
theorem d_S_takeForeignRead_56 : decode b_S_takeForeignRead 56 = .ok (.iload 5, 2) := by decide +kernel
theorem d_S_takeForeignRead_58 : decode b_S_takeForeignRead 58 = .ok (.invokevirtual 109, 3) := by decide +kernel
theorem d_S_takeForeignRead_61 : decode b_S_takeForeignRead 61 = .ok (.ifCond .eq 20, 3) := by decide +kernel
theorem d_S_takeForeignRead_64 : decode b_S_takeForeignRead 64 = .ok (.aload_n 0, 1) := by decide +kernel
theorem d_S_takeForeignRead_65 : decode b_S_takeForeignRead 65 = .ok (.getfield 17, 3) := by decide +kernel
theorem d_S_takeForeignRead_68 : decode b_S_takeForeignRead 68 = .ok (.iload_n 3, 1) := by decide +kernel
theorem d_S_takeForeignRead_69 : decode b_S_takeForeignRead 69 = .ok (.aaload, 1) := by decide +kernel
theorem d_S_takeForeignRead_70 : decode b_S_takeForeignRead 70 = .ok (.iload 6, 2) := by decide +kernel
theorem d_S_takeForeignRead_72 : decode b_S_takeForeignRead 72 = .ok (.dup2, 1) := by decide +kernel
theorem d_S_takeForeignRead_73 : decode b_S_takeForeignRead 73 = .ok (.iaload, 1) := by decide +kernel
theorem d_S_takeForeignRead_74 : decode b_S_takeForeignRead 74 = .ok (.iload 4, 2) := by decide +kernel
theorem d_S_takeForeignRead_76 : decode b_S_takeForeignRead 76 = .ok (.invokestatic 55, 3) := by decide +kernel
theorem d_S_takeForeignRead_79 : decode b_S_takeForeignRead 79 = .ok (.ior, 1) := by decide +kernel
theorem d_S_takeForeignRead_80 : decode b_S_takeForeignRead 80 = .ok (.iastore, 1) := by decide +kernel
theorem d_S_takeForeignRead_81 : decode b_S_takeForeignRead 81 = .ok (.iinc 6 1, 3) := by decide +kernel
theorem d_S_takeForeignRead_84 : decode b_S_takeForeignRead 84 = .ok (.goto (-51), 3) := by decide +kernel
theorem d_S_takeForeignRead_87 : decode b_S_takeForeignRead 87 = .ok (.return_, 1) := by decide +kernel
abbrev y_S_takeRead : MethodName := ⟨"HistoryJudge$SerialSearch", "takeRead", "(LHistoryJudge$History;I)V"⟩
abbrev b_S_takeRead : ByteArray := prog_5_method_6_code
theorem d_S_takeRead_0 : decode b_S_takeRead 0 = .ok (.aload_n 1, 1) := by decide +kernel
theorem d_S_takeRead_1 : decode b_S_takeRead 1 = .ok (.getfield 83, 3) := by decide +kernel
theorem d_S_takeRead_4 : decode b_S_takeRead 4 = .ok (.iload_n 2, 1) := by decide +kernel
theorem d_S_takeRead_5 : decode b_S_takeRead 5 = .ok (.iaload, 1) := by decide +kernel
theorem d_S_takeRead_6 : decode b_S_takeRead 6 = .ok (.istore_n 3, 1) := by decide +kernel
theorem d_S_takeRead_7 : decode b_S_takeRead 7 = .ok (.aload_n 1, 1) := by decide +kernel
theorem d_S_takeRead_8 : decode b_S_takeRead 8 = .ok (.getfield 86, 3) := by decide +kernel
theorem d_S_takeRead_11 : decode b_S_takeRead 11 = .ok (.iload_n 2, 1) := by decide +kernel
theorem d_S_takeRead_12 : decode b_S_takeRead 12 = .ok (.iaload, 1) := by decide +kernel
theorem d_S_takeRead_13 : decode b_S_takeRead 13 = .ok (.iconst (-1), 1) := by decide +kernel
theorem d_S_takeRead_14 : decode b_S_takeRead 14 = .ok (.if_icmp .eq 32, 3) := by decide +kernel
theorem d_S_takeRead_17 : decode b_S_takeRead 17 = .ok (.aload_n 0, 1) := by decide +kernel
theorem d_S_takeRead_18 : decode b_S_takeRead 18 = .ok (.aload_n 0, 1) := by decide +kernel
theorem d_S_takeRead_19 : decode b_S_takeRead 19 = .ok (.getfield 27, 3) := by decide +kernel
theorem d_S_takeRead_22 : decode b_S_takeRead 22 = .ok (.ifCond .eq 17, 3) := by decide +kernel
theorem d_S_takeRead_25 : decode b_S_takeRead 25 = .ok (.iload_n 3, 1) := by decide +kernel
theorem d_S_takeRead_26 : decode b_S_takeRead 26 = .ok (.aload_n 1, 1) := by decide +kernel
theorem d_S_takeRead_27 : decode b_S_takeRead 27 = .ok (.getfield 86, 3) := by decide +kernel
theorem d_S_takeRead_30 : decode b_S_takeRead 30 = .ok (.iload_n 2, 1) := by decide +kernel
theorem d_S_takeRead_31 : decode b_S_takeRead 31 = .ok (.iaload, 1) := by decide +kernel
theorem d_S_takeRead_32 : decode b_S_takeRead 32 = .ok (.if_icmp .ne 7, 3) := by decide +kernel
theorem d_S_takeRead_35 : decode b_S_takeRead 35 = .ok (.iconst 1, 1) := by decide +kernel
theorem d_S_takeRead_36 : decode b_S_takeRead 36 = .ok (.goto 4, 3) := by decide +kernel
theorem d_S_takeRead_39 : decode b_S_takeRead 39 = .ok (.iconst 0, 1) := by decide +kernel
theorem d_S_takeRead_40 : decode b_S_takeRead 40 = .ok (.putfield 27, 3) := by decide +kernel
theorem d_S_takeRead_43 : decode b_S_takeRead 43 = .ok (.goto 69, 3) := by decide +kernel
theorem d_S_takeRead_46 : decode b_S_takeRead 46 = .ok (.iload_n 3, 1) := by decide +kernel
theorem d_S_takeRead_47 : decode b_S_takeRead 47 = .ok (.iconst (-1), 1) := by decide +kernel
theorem d_S_takeRead_48 : decode b_S_takeRead 48 = .ok (.if_icmp .ne 23, 3) := by decide +kernel
theorem d_S_takeRead_51 : decode b_S_takeRead 51 = .ok (.aload_n 0, 1) := by decide +kernel
theorem d_S_takeRead_52 : decode b_S_takeRead 52 = .ok (.aload_n 1, 1) := by decide +kernel
theorem d_S_takeRead_53 : decode b_S_takeRead 53 = .ok (.aload_n 1, 1) := by decide +kernel
theorem d_S_takeRead_54 : decode b_S_takeRead 54 = .ok (.getfield 73, 3) := by decide +kernel
theorem d_S_takeRead_57 : decode b_S_takeRead 57 = .ok (.iload_n 2, 1) := by decide +kernel
theorem d_S_takeRead_58 : decode b_S_takeRead 58 = .ok (.iaload, 1) := by decide +kernel
theorem d_S_takeRead_59 : decode b_S_takeRead 59 = .ok (.aload_n 1, 1) := by decide +kernel
theorem d_S_takeRead_60 : decode b_S_takeRead 60 = .ok (.getfield 89, 3) := by decide +kernel
theorem d_S_takeRead_63 : decode b_S_takeRead 63 = .ok (.iload_n 2, 1) := by decide +kernel
theorem d_S_takeRead_64 : decode b_S_takeRead 64 = .ok (.iaload, 1) := by decide +kernel
theorem d_S_takeRead_65 : decode b_S_takeRead 65 = .ok (.invokevirtual 92, 3) := by decide +kernel
theorem d_S_takeRead_68 : decode b_S_takeRead 68 = .ok (.goto 44, 3) := by decide +kernel
theorem d_S_takeRead_71 : decode b_S_takeRead 71 = .ok (.aload_n 1, 1) := by decide +kernel
theorem d_S_takeRead_72 : decode b_S_takeRead 72 = .ok (.aload_n 1, 1) := by decide +kernel
theorem d_S_takeRead_73 : decode b_S_takeRead 73 = .ok (.getfield 96, 3) := by decide +kernel
theorem d_S_takeRead_76 : decode b_S_takeRead 76 = .ok (.iload_n 3, 1) := by decide +kernel
theorem d_S_takeRead_77 : decode b_S_takeRead 77 = .ok (.iaload, 1) := by decide +kernel
theorem d_S_takeRead_78 : decode b_S_takeRead 78 = .ok (.invokevirtual 76, 3) := by decide +kernel
theorem d_S_takeRead_81 : decode b_S_takeRead 81 = .ok (.ifCond .eq 26, 3) := by decide +kernel
theorem d_S_takeRead_84 : decode b_S_takeRead 84 = .ok (.aload_n 1, 1) := by decide +kernel
theorem d_S_takeRead_85 : decode b_S_takeRead 85 = .ok (.iload_n 3, 1) := by decide +kernel
theorem d_S_takeRead_86 : decode b_S_takeRead 86 = .ok (.invokevirtual 99, 3) := by decide +kernel
theorem d_S_takeRead_89 : decode b_S_takeRead 89 = .ok (.ifCond .eq 18, 3) := by decide +kernel
theorem d_S_takeRead_92 : decode b_S_takeRead 92 = .ok (.aload_n 0, 1) := by decide +kernel
theorem d_S_takeRead_93 : decode b_S_takeRead 93 = .ok (.aload_n 1, 1) := by decide +kernel
theorem d_S_takeRead_94 : decode b_S_takeRead 94 = .ok (.iload_n 2, 1) := by decide +kernel
theorem d_S_takeRead_95 : decode b_S_takeRead 95 = .ok (.aload_n 1, 1) := by decide +kernel
theorem d_S_takeRead_96 : decode b_S_takeRead 96 = .ok (.getfield 96, 3) := by decide +kernel
theorem d_S_takeRead_99 : decode b_S_takeRead 99 = .ok (.iload_n 3, 1) := by decide +kernel
theorem d_S_takeRead_100 : decode b_S_takeRead 100 = .ok (.iaload, 1) := by decide +kernel
theorem d_S_takeRead_101 : decode b_S_takeRead 101 = .ok (.invokevirtual 102, 3) := by decide +kernel
theorem d_S_takeRead_104 : decode b_S_takeRead 104 = .ok (.goto 8, 3) := by decide +kernel
theorem d_S_takeRead_107 : decode b_S_takeRead 107 = .ok (.aload_n 0, 1) := by decide +kernel
theorem d_S_takeRead_108 : decode b_S_takeRead 108 = .ok (.iconst 0, 1) := by decide +kernel
theorem d_S_takeRead_109 : decode b_S_takeRead 109 = .ok (.putfield 27, 3) := by decide +kernel
theorem d_S_takeRead_112 : decode b_S_takeRead 112 = .ok (.return_, 1) := by decide +kernel
abbrev y_S_takeReads : MethodName := ⟨"HistoryJudge$SerialSearch", "takeReads", "(LHistoryJudge$History;)V"⟩
abbrev b_S_takeReads : ByteArray := prog_5_method_5_code
theorem d_S_takeReads_0 : decode b_S_takeReads 0 = .ok (.aload_n 0, 1) := by decide +kernel
theorem d_S_takeReads_1 : decode b_S_takeReads 1 = .ok (.aload_n 1, 1) := by decide +kernel
theorem d_S_takeReads_2 : decode b_S_takeReads 2 = .ok (.invokevirtual 58, 3) := by decide +kernel
theorem d_S_takeReads_5 : decode b_S_takeReads 5 = .ok (.putfield 31, 3) := by decide +kernel
theorem d_S_takeReads_8 : decode b_S_takeReads 8 = .ok (.aload_n 0, 1) := by decide +kernel
theorem d_S_takeReads_9 : decode b_S_takeReads 9 = .ok (.iconst 1, 1) := by decide +kernel
theorem d_S_takeReads_10 : decode b_S_takeReads 10 = .ok (.putfield 27, 3) := by decide +kernel
theorem d_S_takeReads_13 : decode b_S_takeReads 13 = .ok (.aload_n 0, 1) := by decide +kernel
theorem d_S_takeReads_14 : decode b_S_takeReads 14 = .ok (.getfield 9, 3) := by decide +kernel
theorem d_S_takeReads_17 : decode b_S_takeReads 17 = .ok (.iconst 0, 1) := by decide +kernel
theorem d_S_takeReads_18 : decode b_S_takeReads 18 = .ok (.invokestatic 64, 3) := by decide +kernel
theorem d_S_takeReads_21 : decode b_S_takeReads 21 = .ok (.iconst 0, 1) := by decide +kernel
theorem d_S_takeReads_22 : decode b_S_takeReads 22 = .ok (.istore_n 2, 1) := by decide +kernel
theorem d_S_takeReads_23 : decode b_S_takeReads 23 = .ok (.iload_n 2, 1) := by decide +kernel
theorem d_S_takeReads_24 : decode b_S_takeReads 24 = .ok (.bipush 8, 2) := by decide +kernel
theorem d_S_takeReads_26 : decode b_S_takeReads 26 = .ok (.if_icmp .ge 19, 3) := by decide +kernel
theorem d_S_takeReads_29 : decode b_S_takeReads 29 = .ok (.aload_n 0, 1) := by decide +kernel
theorem d_S_takeReads_30 : decode b_S_takeReads 30 = .ok (.getfield 17, 3) := by decide +kernel
theorem d_S_takeReads_33 : decode b_S_takeReads 33 = .ok (.iload_n 2, 1) := by decide +kernel
theorem d_S_takeReads_34 : decode b_S_takeReads 34 = .ok (.aaload, 1) := by decide +kernel
theorem d_S_takeReads_35 : decode b_S_takeReads 35 = .ok (.iconst 0, 1) := by decide +kernel
theorem d_S_takeReads_36 : decode b_S_takeReads 36 = .ok (.invokestatic 64, 3) := by decide +kernel
theorem d_S_takeReads_39 : decode b_S_takeReads 39 = .ok (.iinc 2 1, 3) := by decide +kernel
theorem d_S_takeReads_42 : decode b_S_takeReads 42 = .ok (.goto (-19), 3) := by decide +kernel
theorem d_S_takeReads_45 : decode b_S_takeReads 45 = .ok (.iconst 0, 1) := by decide +kernel
theorem d_S_takeReads_46 : decode b_S_takeReads 46 = .ok (.istore_n 2, 1) := by decide +kernel
theorem d_S_takeReads_47 : decode b_S_takeReads 47 = .ok (.iload_n 2, 1) := by decide +kernel
theorem d_S_takeReads_48 : decode b_S_takeReads 48 = .ok (.aload_n 1, 1) := by decide +kernel
theorem d_S_takeReads_49 : decode b_S_takeReads 49 = .ok (.getfield 70, 3) := by decide +kernel
theorem d_S_takeReads_52 : decode b_S_takeReads 52 = .ok (.if_icmp .ge 28, 3) := by decide +kernel
theorem d_S_takeReads_55 : decode b_S_takeReads 55 = .ok (.aload_n 1, 1) := by decide +kernel
theorem d_S_takeReads_56 : decode b_S_takeReads 56 = .ok (.aload_n 1, 1) := by decide +kernel
theorem d_S_takeReads_57 : decode b_S_takeReads 57 = .ok (.getfield 73, 3) := by decide +kernel
theorem d_S_takeReads_60 : decode b_S_takeReads 60 = .ok (.iload_n 2, 1) := by decide +kernel
theorem d_S_takeReads_61 : decode b_S_takeReads 61 = .ok (.iaload, 1) := by decide +kernel
theorem d_S_takeReads_62 : decode b_S_takeReads 62 = .ok (.invokevirtual 76, 3) := by decide +kernel
theorem d_S_takeReads_65 : decode b_S_takeReads 65 = .ok (.ifCond .eq 9, 3) := by decide +kernel
theorem d_S_takeReads_68 : decode b_S_takeReads 68 = .ok (.aload_n 0, 1) := by decide +kernel
theorem d_S_takeReads_69 : decode b_S_takeReads 69 = .ok (.aload_n 1, 1) := by decide +kernel
theorem d_S_takeReads_70 : decode b_S_takeReads 70 = .ok (.iload_n 2, 1) := by decide +kernel
theorem d_S_takeReads_71 : decode b_S_takeReads 71 = .ok (.invokevirtual 79, 3) := by decide +kernel
theorem d_S_takeReads_74 : decode b_S_takeReads 74 = .ok (.iinc 2 1, 3) := by decide +kernel
theorem d_S_takeReads_77 : decode b_S_takeReads 77 = .ok (.goto (-30), 3) := by decide +kernel
theorem d_S_takeReads_80 : decode b_S_takeReads 80 = .ok (.return_, 1) := by decide +kernel
abbrev y_S_transactionAt : MethodName := ⟨"HistoryJudge$SerialSearch", "transactionAt", "(I)I"⟩
abbrev b_S_transactionAt : ByteArray := prog_5_method_4_code
theorem d_S_transactionAt_0 : decode b_S_transactionAt 0 = .ok (.aload_n 0, 1) := by decide +kernel
theorem d_S_transactionAt_1 : decode b_S_transactionAt 1 = .ok (.invokevirtual 43, 3) := by decide +kernel
theorem d_S_transactionAt_4 : decode b_S_transactionAt 4 = .ok (.ifCond .eq 18, 3) := by decide +kernel
theorem d_S_transactionAt_7 : decode b_S_transactionAt 7 = .ok (.iload_n 1, 1) := by decide +kernel
theorem d_S_transactionAt_8 : decode b_S_transactionAt 8 = .ok (.ifCond .lt 14, 3) := by decide +kernel
theorem d_S_transactionAt_11 : decode b_S_transactionAt 11 = .ok (.iload_n 1, 1) := by decide +kernel
theorem d_S_transactionAt_12 : decode b_S_transactionAt 12 = .ok (.aload_n 0, 1) := by decide +kernel
theorem d_S_transactionAt_13 : decode b_S_transactionAt 13 = .ok (.getfield 31, 3) := by decide +kernel
theorem d_S_transactionAt_16 : decode b_S_transactionAt 16 = .ok (.invokestatic 47, 3) := by decide +kernel
theorem d_S_transactionAt_19 : decode b_S_transactionAt 19 = .ok (.if_icmp .lt 5, 3) := by decide +kernel
theorem d_S_transactionAt_22 : decode b_S_transactionAt 22 = .ok (.iconst (-1), 1) := by decide +kernel
theorem d_S_transactionAt_23 : decode b_S_transactionAt 23 = .ok (.ireturn, 1) := by decide +kernel
theorem d_S_transactionAt_24 : decode b_S_transactionAt 24 = .ok (.iconst 0, 1) := by decide +kernel
theorem d_S_transactionAt_25 : decode b_S_transactionAt 25 = .ok (.istore_n 2, 1) := by decide +kernel
theorem d_S_transactionAt_26 : decode b_S_transactionAt 26 = .ok (.iconst 0, 1) := by decide +kernel
theorem d_S_transactionAt_27 : decode b_S_transactionAt 27 = .ok (.istore_n 3, 1) := by decide +kernel
theorem d_S_transactionAt_28 : decode b_S_transactionAt 28 = .ok (.iload_n 3, 1) := by decide +kernel
theorem d_S_transactionAt_29 : decode b_S_transactionAt 29 = .ok (.iload_n 1, 1) := by decide +kernel
theorem d_S_transactionAt_30 : decode b_S_transactionAt 30 = .ok (.if_icmp .ge 24, 3) := by decide +kernel
theorem d_S_transactionAt_33 : decode b_S_transactionAt 33 = .ok (.iload_n 2, 1) := by decide +kernel
theorem d_S_transactionAt_34 : decode b_S_transactionAt 34 = .ok (.aload_n 0, 1) := by decide +kernel
theorem d_S_transactionAt_35 : decode b_S_transactionAt 35 = .ok (.getfield 20, 3) := by decide +kernel
theorem d_S_transactionAt_38 : decode b_S_transactionAt 38 = .ok (.iload_n 2, 1) := by decide +kernel
theorem d_S_transactionAt_39 : decode b_S_transactionAt 39 = .ok (.iaload, 1) := by decide +kernel
theorem d_S_transactionAt_40 : decode b_S_transactionAt 40 = .ok (.invokestatic 52, 3) := by decide +kernel
theorem d_S_transactionAt_43 : decode b_S_transactionAt 43 = .ok (.invokestatic 55, 3) := by decide +kernel
theorem d_S_transactionAt_46 : decode b_S_transactionAt 46 = .ok (.ior, 1) := by decide +kernel
theorem d_S_transactionAt_47 : decode b_S_transactionAt 47 = .ok (.istore_n 2, 1) := by decide +kernel
theorem d_S_transactionAt_48 : decode b_S_transactionAt 48 = .ok (.iinc 3 1, 3) := by decide +kernel
theorem d_S_transactionAt_51 : decode b_S_transactionAt 51 = .ok (.goto (-23), 3) := by decide +kernel
theorem d_S_transactionAt_54 : decode b_S_transactionAt 54 = .ok (.aload_n 0, 1) := by decide +kernel
theorem d_S_transactionAt_55 : decode b_S_transactionAt 55 = .ok (.getfield 20, 3) := by decide +kernel
theorem d_S_transactionAt_58 : decode b_S_transactionAt 58 = .ok (.iload_n 2, 1) := by decide +kernel
theorem d_S_transactionAt_59 : decode b_S_transactionAt 59 = .ok (.iaload, 1) := by decide +kernel
theorem d_S_transactionAt_60 : decode b_S_transactionAt 60 = .ok (.invokestatic 52, 3) := by decide +kernel
theorem d_S_transactionAt_63 : decode b_S_transactionAt 63 = .ok (.ireturn, 1) := by decide +kernel
end
section
/-! the shape of the world: classes, fields, groups of cells -/
abbrev jxK : Type := (Nat × List (Option Nat)) ⊕ (Nat × Nat) ⊕ (Nat × Nat)
abbrev jR0 : String := "HistoryJudge$CycleSearch"
def jT0 : u_T := fun k => match k with
  | 0 => ("HistoryJudge$CycleSearch", "plain", "[I", true)
  | 1 => ("HistoryJudge$CycleSearch", "marked", "[I", true)
  | 2 => ("HistoryJudge$CycleSearch", "paid", "[I", true)
  | 3 => ("HistoryJudge$CycleSearch", "owing", "[I", true)
  | _ => ("HistoryJudge$CycleSearch", "row", "[I", true)
def jt0 : Nat → FieldType := fun k => match k with
  | 0 => .array .int
  | 1 => .array .int
  | 2 => .array .int
  | 3 => .array .int
  | _ => .array .int
theorem jn0 : ∀ a, a < 5 → ∀ b, b < 5 → a ≠ b → (jT0 a).2.1 ≠ (jT0 b).2.1 := by decide +kernel
theorem jt0_ok : ∀ k, k < 5 → parseFieldDescriptor (jT0 k).2.2.1 = some (jt0 k) := by decide +kernel
theorem ju0 : ∀ w ∈ u_ws jR0 jT0 5, w ∈ jW := by decide +kernel
abbrev jR1 : String := "HistoryJudge$Graph"
def jT1 : u_T := fun k => match k with
  | 0 => ("HistoryJudge$Graph", "ww", "[I", true)
  | 1 => ("HistoryJudge$Graph", "wr", "[I", true)
  | _ => ("HistoryJudge$Graph", "rw", "[I", true)
def jt1 : Nat → FieldType := fun k => match k with
  | 0 => .array .int
  | 1 => .array .int
  | _ => .array .int
theorem jn1 : ∀ a, a < 3 → ∀ b, b < 3 → a ≠ b → (jT1 a).2.1 ≠ (jT1 b).2.1 := by decide +kernel
theorem jt1_ok : ∀ k, k < 3 → parseFieldDescriptor (jT1 k).2.2.1 = some (jt1 k) := by decide +kernel
theorem ju1 : ∀ w ∈ u_ws jR1 jT1 3, w ∈ jW := by decide +kernel
abbrev jR2 : String := "HistoryJudge$History"
def jT2 : u_T := fun k => match k with
  | 0 => ("HistoryJudge$History", "states", "[I", true)
  | 1 => ("HistoryJudge$History", "writers", "[I", true)
  | 2 => ("HistoryJudge$History", "writtenItems", "[I", true)
  | 3 => ("HistoryJudge$History", "versions", "I", false)
  | 4 => ("HistoryJudge$History", "readers", "[I", true)
  | 5 => ("HistoryJudge$History", "readItems", "[I", true)
  | 6 => ("HistoryJudge$History", "readVersions", "[I", true)
  | 7 => ("HistoryJudge$History", "ownVersions", "[I", true)
  | 8 => ("HistoryJudge$History", "reads", "I", false)
  | 9 => ("HistoryJudge$History", "latest", "[[I", true)
  | 10 => ("HistoryJudge$History", "order", "[[I", true)
  | _ => ("HistoryJudge$History", "ordered", "[I", true)
def jt2 : Nat → FieldType := fun k => match k with
  | 0 => .array .int
  | 1 => .array .int
  | 2 => .array .int
  | 3 => .int
  | 4 => .array .int
  | 5 => .array .int
  | 6 => .array .int
  | 7 => .array .int
  | 8 => .int
  | 9 => .array (.array .int)
  | 10 => .array (.array .int)
  | _ => .array .int
theorem jn2 : ∀ a, a < 12 → ∀ b, b < 12 → a ≠ b → (jT2 a).2.1 ≠ (jT2 b).2.1 := by decide +kernel
theorem jt2_ok : ∀ k, k < 12 → parseFieldDescriptor (jT2 k).2.2.1 = some (jt2 k) := by decide +kernel
theorem ju2 : ∀ w ∈ u_ws jR2 jT2 12, w ∈ jW := by decide +kernel
abbrev jR3 : String := "HistoryJudge$SerialSearch"
def jT3 : u_T := fun k => match k with
  | 0 => ("HistoryJudge$SerialSearch", "before", "[I", true)
  | 1 => ("HistoryJudge$SerialSearch", "readersBetween", "[[I", true)
  | 2 => ("HistoryJudge$SerialSearch", "nexts", "[I", true)
  | 3 => ("HistoryJudge$SerialSearch", "committed", "I", false)
  | _ => ("HistoryJudge$SerialSearch", "sound", "Z", false)
def jt3 : Nat → FieldType := fun k => match k with
  | 0 => .array .int
  | 1 => .array (.array .int)
  | 2 => .array .int
  | 3 => .int
  | _ => .boolean
theorem jn3 : ∀ a, a < 5 → ∀ b, b < 5 → a ≠ b → (jT3 a).2.1 ≠ (jT3 b).2.1 := by decide +kernel
theorem jt3_ok : ∀ k, k < 5 → parseFieldDescriptor (jT3 k).2.2.1 = some (jt3 k) := by decide +kernel
theorem ju3 : ∀ w ∈ u_ws jR3 jT3 5, w ∈ jW := by decide +kernel
abbrev jR4 : String := "HistoryJudge"
def jT4 : u_T := fun k => match k with
  | 0 => ("HistoryJudge", "history", "LHistoryJudge$History;", true)
  | 1 => ("HistoryJudge", "graph", "LHistoryJudge$Graph;", true)
  | 2 => ("HistoryJudge", "cycles", "LHistoryJudge$CycleSearch;", true)
  | _ => ("HistoryJudge", "serials", "LHistoryJudge$SerialSearch;", true)
def jt4 : Nat → FieldType := fun k => match k with
  | 0 => .object "HistoryJudge$History"
  | 1 => .object "HistoryJudge$Graph"
  | 2 => .object "HistoryJudge$CycleSearch"
  | _ => .object "HistoryJudge$SerialSearch"
theorem jn4 : ∀ a, a < 4 → ∀ b, b < 4 → a ≠ b → (jT4 a).2.1 ≠ (jT4 b).2.1 := by decide +kernel
theorem jt4_ok : ∀ k, k < 4 → parseFieldDescriptor (jT4 k).2.2.1 = some (jt4 k) := by decide +kernel
theorem ju4 : ∀ w ∈ u_ws jR4 jT4 4, w ∈ jW := by decide +kernel
abbrev jR5 : String := "HistoryJudgeModel"
def jT5 : u_T := fun k => match k with
  | 0 => ("HistoryJudgeModel", "code", "I", false)
  | 1 => ("HistoryJudgeModel", "states", "[I", true)
  | 2 => ("HistoryJudgeModel", "versions", "I", false)
  | 3 => ("HistoryJudgeModel", "writer", "[I", true)
  | 4 => ("HistoryJudgeModel", "itemOf", "[I", true)
  | 5 => ("HistoryJudgeModel", "reads", "I", false)
  | 6 => ("HistoryJudgeModel", "events", "I", false)
  | 7 => ("HistoryJudgeModel", "who", "[I", true)
  | 8 => ("HistoryJudgeModel", "what", "[I", true)
  | 9 => ("HistoryJudgeModel", "which", "[I", true)
  | 10 => ("HistoryJudgeModel", "writes", "[Z", true)
  | 11 => ("HistoryJudgeModel", "lengths", "[I", true)
  | 12 => ("HistoryJudgeModel", "order", "[I", true)
  | 13 => ("HistoryJudgeModel", "drawn", "[I", true)
  | 14 => ("HistoryJudgeModel", "row", "[I", true)
  | 15 => ("HistoryJudgeModel", "tries", "[I", true)
  | 16 => ("HistoryJudgeModel", "size", "I", false)
  | _ => ("HistoryJudgeModel", "latest", "[I", true)
def jt5 : Nat → FieldType := fun k => match k with
  | 0 => .int
  | 1 => .array .int
  | 2 => .int
  | 3 => .array .int
  | 4 => .array .int
  | 5 => .int
  | 6 => .int
  | 7 => .array .int
  | 8 => .array .int
  | 9 => .array .int
  | 10 => .array .boolean
  | 11 => .array .int
  | 12 => .array .int
  | 13 => .array .int
  | 14 => .array .int
  | 15 => .array .int
  | 16 => .int
  | _ => .array .int
theorem jn5 : ∀ a, a < 18 → ∀ b, b < 18 → a ≠ b → (jT5 a).2.1 ≠ (jT5 b).2.1 := by decide +kernel
theorem jt5_ok : ∀ k, k < 18 → parseFieldDescriptor (jT5 k).2.2.1 = some (jt5 k) := by decide +kernel
theorem ju5 : ∀ w ∈ u_ws jR5 jT5 18, w ∈ jW := by decide +kernel
abbrev jxCl : List vw_C := [(jR0, jT0, 5), (jR1, jT1, 3), (jR2, jT2, 12), (jR3, jT3, 5), (jR4, jT4, 4), (jR5, jT5, 18)]
def jxk : Nat → jxK := fun g => match g with
  | 0 => .inl (4, [some 1, some 20, some 24, some 30])
  | 1 => .inl (2, [some 2, some 3, some 4, none, some 5, some 6, some 7, some 8, none, some 9, some 11, some 13])
  | 2 => .inr (.inl (0, 8))
  | 3 => .inr (.inl (0, 40))
  | 4 => .inr (.inl (0, 40))
  | 5 => .inr (.inl (0, 60))
  | 6 => .inr (.inl (0, 60))
  | 7 => .inr (.inl (0, 60))
  | 8 => .inr (.inl (0, 60))
  | 9 => .inr (.inr (10, 8))
  | 10 => .inr (.inl (0, 6))
  | 11 => .inr (.inr (12, 6))
  | 12 => .inr (.inl (0, 8))
  | 13 => .inr (.inl (0, 6))
  | 20 => .inl (1, [some 21, some 22, some 23])
  | 21 => .inr (.inl (0, 8))
  | 22 => .inr (.inl (0, 8))
  | 23 => .inr (.inl (0, 8))
  | 24 => .inl (0, [some 25, some 26, some 27, some 28, some 29])
  | 25 => .inr (.inl (0, 8))
  | 26 => .inr (.inl (0, 8))
  | 27 => .inr (.inl (0, 9))
  | 28 => .inr (.inl (0, 9))
  | 29 => .inr (.inl (0, 8))
  | 30 => .inl (3, [some 31, some 32, some 34, none, none])
  | 31 => .inr (.inl (0, 8))
  | 32 => .inr (.inr (33, 8))
  | 33 => .inr (.inl (0, 8))
  | 34 => .inr (.inl (0, 256))
  | 40 => .inl (5, [none, some 41, none, some 42, some 43, none, none, some 44, some 45, some 46, some 47, some 48, some 49, some 50, some 51, some 52, none, some 53])
  | 41 => .inr (.inl (0, 8))
  | 42 => .inr (.inl (0, 40))
  | 43 => .inr (.inl (0, 40))
  | 44 => .inr (.inl (0, 100))
  | 45 => .inr (.inl (0, 100))
  | 46 => .inr (.inl (0, 100))
  | 47 => .inr (.inl (1, 100))
  | 48 => .inr (.inl (0, 6))
  | 49 => .inr (.inl (0, 48))
  | 50 => .inr (.inl (0, 64))
  | 51 => .inr (.inl (0, 9))
  | 52 => .inr (.inl (0, 9))
  | 53 => .inr (.inl (0, 54))
  | _ => .inr (.inl (0, 0))
/-- how many rows a group has, by the object that it belongs to -/
def jrwH : Nat → Nat := fun g => match g with
  | 1 => 1
  | 2 => 1
  | 3 => 1
  | 4 => 1
  | 5 => 1
  | 6 => 1
  | 7 => 1
  | 8 => 1
  | 9 => 1
  | 10 => 8
  | 11 => 1
  | 12 => 6
  | 13 => 1
  | _ => 0
def jrwJ : Nat → Nat := fun g => match g with
  | 0 => 1
  | 1 => 1
  | 2 => 1
  | 3 => 1
  | 4 => 1
  | 5 => 1
  | 6 => 1
  | 7 => 1
  | 8 => 1
  | 9 => 1
  | 10 => 8
  | 11 => 1
  | 12 => 6
  | 13 => 1
  | 20 => 1
  | 21 => 1
  | 22 => 1
  | 23 => 1
  | 24 => 1
  | 25 => 1
  | 26 => 1
  | 27 => 1
  | 28 => 1
  | 29 => 1
  | 30 => 1
  | 31 => 1
  | 32 => 1
  | 33 => 8
  | 34 => 1
  | _ => 0
def jrwM : Nat → Nat := fun g => match g with
  | 40 => 1
  | 41 => 1
  | 42 => 1
  | 43 => 1
  | 44 => 1
  | 45 => 1
  | 46 => 1
  | 47 => 1
  | 48 => 1
  | 49 => 1
  | 50 => 1
  | 51 => 1
  | 52 => 1
  | 53 => 1
  | _ => 0
end
section
/-! The judgement of a walk over a world of fixed shape: cells are (group, row), one memory, one address function. -/
abbrev jxM : Type := Nat → Nat → Nat → Int32
abbrev jxV : Type := Int32 ⊕ (Nat × Nat)
/-- tables of the classes, array classes, addresses, which cells are there -/
abbrev jxT : Type := va_G × (Nat → ClassId) × (Nat → Nat → Nat) × (Nat → Nat → Prop)
abbrev jxG : Type := Program × Launch × Env × Room × State × MethodId × Array Value × List Frame × Method × Code × (Nat → Prop)
abbrev jxF : Type := Option jxV → jxM → Prop
def jxe (ad : Nat → Nat → Nat) (v : jxV) : Value := match v with
  | .inl x => .int x
  | .inr q => .ref (ad q.1 q.2)
theorem jxe_cat (ad : Nat → Nat → Nat) (v : jxV) : (jxe ad v).category = 1 := by cases v <;> rfl
def jxfs (ad : Nat → Nat → Nat) (f : Nat → Int32) (k : Nat) : List (Option Nat) → List Value
  | [] => []
  | none :: l => .int (f k) :: jxfs ad f (k + 1) l
  | some g :: l => .ref (ad g 0) :: jxfs ad f (k + 1) l
def jxcon (Θ : jxT) (k : jxK) (f : Nat → Int32) : va_E := match k with
  | .inl o => .inr (o.1, jxfs Θ.2.2.1 f 0 o.2)
  | .inr (.inl a) => .inl (Θ.2.1 a.1, a.2, .inl f)
  | .inr (.inr a) => .inl (Θ.2.1 2, a.2, .inr (.inr (.inr (.inr (fun i => some (Θ.2.2.1 a.1 i))))))
theorem jxfs_len (ad : Nat → Nat → Nat) (f : Nat → Int32) (k : Nat) (l : List (Option Nat)) : (jxfs ad f k l).length = l.length := by
  induction l generalizing k with
  | nil => rfl
  | cons a l ih => cases a <;> simp [jxfs, ih]
theorem jxfs_int (ad : Nat → Nat → Nat) (f : Nat → Int32) (k j : Nat) (l : List (Option Nat)) (h : l[j]? = some none) : (jxfs ad f k l)[j]? = some (.int (f (k + j))) := by
  induction l generalizing k j with
  | nil => simp at h
  | cons a l ih =>
    cases j with
    | zero => simp at h; subst h; simp [jxfs]
    | succ j =>
      have h' : l[j]? = some none := by simpa using h
      have := ih (k + 1) j h'
      rw [show k + 1 + j = k + (j + 1) by omega] at this
      cases a <;> simpa [jxfs] using this
theorem jxfs_ref (ad : Nat → Nat → Nat) (f : Nat → Int32) (k j g : Nat) (l : List (Option Nat)) (h : l[j]? = some (some g)) : (jxfs ad f k l)[j]? = some (.ref (ad g 0)) := by
  induction l generalizing k j with
  | nil => simp at h
  | cons a l ih =>
    cases j with
    | zero => simp at h; subst h; simp [jxfs]
    | succ j =>
      have h' : l[j]? = some (some g) := by simpa using h
      have := ih (k + 1) j h'
      cases a <;> simpa [jxfs] using this
theorem jxfs_same (ad : Nat → Nat → Nat) (f f' : Nat → Int32) (k : Nat) (l : List (Option Nat)) (h : ∀ i, k ≤ i → f' i = f i) : jxfs ad f' k l = jxfs ad f k l := by
  induction l generalizing k with
  | nil => rfl
  | cons a l ih =>
    have := ih (k + 1) (fun i hi => h i (by omega))
    cases a <;> simp [jxfs, this, h k (Nat.le_refl _)]
theorem jxfs_set (ad : Nat → Nat → Nat) (f : Nat → Int32) (k j : Nat) (x : Int32) (l : List (Option Nat)) (h : l[j]? = some none) : (jxfs ad f k l).set j (.int x) = jxfs ad (upd f (k + j) x) k l := by
  induction l generalizing k j with
  | nil => simp at h
  | cons a l ih =>
    cases j with
    | zero =>
      simp at h; subst h
      simp only [jxfs, List.set_cons_zero, Nat.add_zero]
      rw [jxfs_same ad f (upd f k x) (k + 1) l (fun i hi => by unfold upd; rw [if_neg (by omega)])]
      simp [upd]
    | succ j =>
      have h' : l[j]? = some none := by simpa using h
      have := ih (k + 1) j h'
      rw [show k + 1 + j = k + (j + 1) by omega] at this
      have hk : upd f (k + (j + 1)) x k = f k := by unfold upd; rw [if_neg (by omega)]
      cases a <;> simp [jxfs, this, hk]
/-- the memory with one place changed -/
def jxs (σ : jxM) (g r j : Nat) (x : Int32) : jxM := fun g' r' => if g' = g ∧ r' = r then upd (σ g r) j x else σ g' r'
theorem jxs_row (σ : jxM) (g r j : Nat) (x : Int32) : jxs σ g r j x g r = upd (σ g r) j x := by simp [jxs]
theorem jxs_off (σ : jxM) (g r j : Nat) (x : Int32) {g' r' : Nat} (h : ¬ (g' = g ∧ r' = r)) : jxs σ g r j x g' r' = σ g' r' := by simp [jxs, h]
theorem jxs_at (σ : jxM) (g r j : Nat) (x : Int32) (g' r' j' : Nat) : jxs σ g r j x g' r' j' = if g' = g ∧ r' = r ∧ j' = j then x else σ g' r' j' := by
  unfold jxs upd
  by_cases h : g' = g ∧ r' = r
  · obtain ⟨rfl, rfl⟩ := h
    by_cases h2 : j' = j <;> simp [h2]
  · rw [if_neg h, if_neg (fun q => h ⟨q.1, q.2.1⟩)]
def jxP (Θ : jxT) (σ : jxM) (H : Heap) : Prop := ∀ g r, Θ.2.2.2 g r → va_at Θ.1 jxCl (Θ.2.2.1 g r, jxcon Θ (jxk g) (σ g r)) H
def jxI (Θ : jxT) : Prop := ∀ g r g' r', Θ.2.2.2 g r → Θ.2.2.2 g' r' → Θ.2.2.1 g r = Θ.2.2.1 g' r' → g = g' ∧ r = r'
def jxA (Θ : jxT) (sz : Nat) : Nat → Prop := fun q => (∃ g r, Θ.2.2.2 g r ∧ q = Θ.2.2.1 g r) ∨ sz ≤ q
def jxtys (cA : Nat → ClassId) : List (ClassId × FieldType) := [(cA 0, .int), (cA 1, .boolean), (cA 2, .array .int)]
def jxS (Θ : jxT) (U : State) : Prop := va_K Θ.1 jxCl (jxtys Θ.2.1) U ∧ ∀ w ∈ jxnst, va_Nw w U
theorem jxnst_warm {s U : State} (hW : s.WarmedH U.vm) {w : Cond} (hw : w ∈ jxnst) (h : va_Nw w s) : va_Nw w U := by
  rcases jxnst_kind w hw with ⟨a, i, x, k, rfl⟩ | ⟨a, i, b, n, d, k, rfl⟩
  · exact va_Nw.warmM hW h
  · exact va_Nw.warmF hW h
theorem jxnst_same {s U : State} (hv : s.vm = U.vm) {w : Cond} (hw : w ∈ jxnst) (h : va_Nw w s) : va_Nw w U := by
  rcases jxnst_kind w hw with ⟨a, i, x, k, rfl⟩ | ⟨a, i, b, n, d, k, rfl⟩
  · exact va_Nw.same rfl hv h
  · exact va_Nw.same rfl hv h
theorem jxS.warm {Θ : jxT} {s U : State} (hW : s.WarmedH U.vm) (h : jxS Θ s) : jxS Θ U := ⟨va_K.moved hW.alike h.1, fun w hw => jxnst_warm hW hw (h.2 w hw)⟩
/-- a store into a cell: what else is there stays -/
theorem jxP.set {Θ : jxT} {σ : jxM} {H H1 : Heap} {g r j : Nat} {x : Int32} (h : jxP Θ σ H) (hI : jxI Θ) (hp : Θ.2.2.2 g r) (he : va_at Θ.1 jxCl (Θ.2.2.1 g r, jxcon Θ (jxk g) (upd (σ g r) j x)) H1) (oq : ∀ q : Nat, q ≠ Θ.2.2.1 g r → H1[q]? = H[q]?) : jxP Θ (jxs σ g r j x) H1 := by
  intro g' r' hp'
  by_cases hq : g' = g ∧ r' = r
  · obtain ⟨rfl, rfl⟩ := hq
    rw [jxs_row]
    exact he
  · rw [jxs_off _ _ _ _ _ hq]
    exact (h g' r' hp').kept (oq _ (fun z => hq (hI g' r' g r hp' hp z)))
def jxL (ad : Nat → Nat → Nat) (ls : Array Slot) (L : List (Option jxV)) : Prop := ls.size = L.length ∧ lv_wf ls ∧ ∀ (i : Nat) (v : jxV), L[i]? = some (some v) → ls[i]? = some (.val (jxe ad v))
def jxpr (ad : Nat → Nat → Nat) (k : Nat) : List (Option jxV) → List (Nat × Value)
  | [] => []
  | none :: l => jxpr ad (k + 1) l
  | some v :: l => (k, jxe ad v) :: jxpr ad (k + 1) l
theorem jxpr_mem (ad : Nat → Nat → Nat) (k : Nat) (l : List (Option jxV)) (q : Nat × Value) : q ∈ jxpr ad k l ↔ ∃ i v, l[i]? = some (some v) ∧ q = (k + i, jxe ad v) := by
  induction l generalizing k with
  | nil => simp [jxpr]
  | cons a l ih =>
    cases a with
    | none =>
      rw [jxpr, ih]
      constructor
      · rintro ⟨i, v, h, rfl⟩
        exact ⟨i + 1, v, by simpa using h, by rw [show k + 1 + i = k + (i + 1) by omega]⟩
      · rintro ⟨i, v, h, rfl⟩
        cases i with
        | zero => simp at h
        | succ i => exact ⟨i, v, by simpa using h, by rw [show k + 1 + i = k + (i + 1) by omega]⟩
    | some w =>
      rw [jxpr, List.mem_cons, ih]
      constructor
      · rintro (rfl | ⟨i, v, h, rfl⟩)
        · exact ⟨0, w, by simp, by simp⟩
        · exact ⟨i + 1, v, by simpa using h, by rw [show k + 1 + i = k + (i + 1) by omega]⟩
      · rintro ⟨i, v, h, rfl⟩
        cases i with
        | zero => simp at h; subst h; exact Or.inl (by simp)
        | succ i => exact Or.inr ⟨i, v, by simpa using h, by rw [show k + 1 + i = k + (i + 1) by omega]⟩
theorem jxL.has {ad : Nat → Nat → Nat} {ls : Array Slot} {L : List (Option jxV)} (h : jxL ad ls L) : lv_has ls L.length (jxpr ad 0 L) := by
  refine ⟨h.1, h.2.1, fun q hq => ?_⟩
  obtain ⟨i, v, h1, rfl⟩ := (jxpr_mem ad 0 L q).mp hq
  simpa using h.2.2 i v h1
theorem jxL.put {ad : Nat → Nat → Nat} {ls' : Array Slot} {L : List (Option jxV)} {i : Nat} {v : jxV} (h : lv_has ls' L.length ((i, jxe ad v) :: (jxpr ad 0 L).filter (fun q => !(q.1 == i) && !(q.1 + 1 == i && q.2.category == 2)))) : jxL ad ls' (L.set i (some v)) := by
  refine ⟨by rw [List.length_set]; exact h.1, h.2.1, fun k w hk => ?_⟩
  by_cases hki : i = k
  · subst hki
    have hlt : i < L.length := by
      have := (List.getElem?_eq_some_iff.mp hk).1
      simpa using this
    rw [List.getElem?_set_self hlt] at hk
    cases hk
    exact h.2.2 _ List.mem_cons_self
  · rw [List.getElem?_set_ne hki] at hk
    refine h.2.2 (k, jxe ad w) (List.mem_cons_of_mem _ (List.mem_filter.mpr ⟨(jxpr_mem ad 0 L _).mpr ⟨k, w, hk, by simp⟩, ?_⟩))
    have hc : ((jxe ad w).category == 2) = false := by rw [jxe_cat]; rfl
    have hk' : (k == i) = false := by simpa using fun q : k = i => hki q.symm
    simp [hk', hc]
theorem jxargs (ad : Nat → Nat → Nat) (k : Nat) (as : List jxV) : lv_args k (as.map (jxe ad)) = jxpr ad k (as.map some) := by
  induction as generalizing k with
  | nil => rfl
  | cons a as ih =>
    simp only [List.map_cons, lv_args, jxpr]
    rw [if_neg (by rw [jxe_cat]; decide), ih]
theorem jxsl (ad : Nat → Nat → Nat) (as : List jxV) : (lg_sl (as.map (jxe ad))).length = as.length := by
  induction as with
  | nil => rfl
  | cons a as ih =>
    simp only [lg_sl, List.map_cons, List.flatMap_cons] at ih ⊢
    rw [if_neg (by rw [jxe_cat]; decide)]
    simp [ih]
theorem jxL.entry (ad : Nat → Nat → Nat) (as : List jxV) {n : Nat} (h : as.length ≤ n) : jxL ad ((lg_sl (as.map (jxe ad)) ++ List.replicate (n - (lg_sl (as.map (jxe ad))).length) Slot.unset).toArray) (as.map some ++ List.replicate (n - as.length) none) := by
  have h0 := lv_entry (as.map (jxe ad)) (n := n) (by rw [jxsl]; exact h)
  refine ⟨by rw [h0.1]; simp; omega, h0.2.1, fun i v hi => ?_⟩
  rw [jxargs] at h0
  by_cases hl : i < (as.map some).length
  · rw [List.getElem?_append_left hl] at hi
    exact h0.2.2 (i, jxe ad v) ((jxpr_mem ad 0 _ _).mpr ⟨i, v, hi, by simp⟩)
  · rw [List.getElem?_append_right (by omega)] at hi
    have := List.eq_of_mem_replicate (List.mem_of_getElem? hi)
    cases this
def jxQ (Θ : jxT) (Φ : jxF) (A : Nat → Prop) : Array Value → State → Outcome → State → Prop := fun _ st oc t => (∃ (r : Option jxV) (σ : jxM), oc = .returned (r.map (jxe Θ.2.2.1)) ∧ Φ r σ ∧ jxP Θ σ t.heap) ∧ va_F A st t
/-- the walk: from every heap that holds σ the machine at pc comes to a return that Φ allows -/
def jxW (Γ : jxG) (Θ : jxT) (Φ : jxF) (pc : Nat) (L : List (Option jxV)) (st : List jxV) (σ : jxM) : Prop := match Γ with
  | (p, l, e, R, s, m, args, below, meth, c, A) => ∀ (H : Heap) (locs : List Loc) (ls : Array Slot), jxP Θ σ H → va_S A s.heap H locs → jxL Θ.2.2.1 ls L → W p l e R s m args below meth c H locs 0 0 (MQ below (jxQ Θ Φ A) args s 0 0 A) (F0 m pc ls (st.map (jxe Θ.2.2.1)))
/-- what a method's walk may use -/
def jxOk (Γ : jxG) (Θ : jxT) (l0 : Launch) (cc : ByteArray) (nL : Nat) (own : String) (ret : Option FieldType) (rm : Room) : Prop := match Γ with
  | (p, l, e, R, s, m, args, below, meth, c, A) => p.tables.exec = Jvm.exec ∧ c.code = cc ∧ c.maxLocals = nL ∧ s.vm.findClass own = some m.cls ∧ (∀ w ∈ jW, w.before args s = true) ∧ meth.sig.returnType = ret ∧ meth.locks = false ∧ jxS Θ s ∧ jxI Θ ∧ (∀ g r, Θ.2.2.2 g r → A (Θ.2.2.1 g r)) ∧ (∀ q, s.heap.size ≤ q → A q) ∧ R = rm ∧ l = l0
def jxPre (Θ : jxT) (as : List jxV) (σ : jxM) (sz : Nat) : Array Value → State → Prop := va_Pc (as.map (jxe Θ.2.2.1)) (fun U => U.heap.size = sz ∧ jxP Θ σ U.heap ∧ jxS Θ U)
def jxMet (l : Launch) (y : MethodName) (cc : ByteArray) (maxL : Nat) (ret : Option FieldType) (rm : Room) (Θ : jxT) (as : List jxV) (σ : jxM) (Φ : jxF) : Prop := ∀ sz, Met l y (Cond.code y cc maxL ret :: jW) rm (jxPre Θ as σ sz) (jxQ Θ Φ (jxA Θ sz)) 0 0 (jxA Θ sz)
theorem jxPre.blind {Θ : jxT} {as : List jxV} {σ : jxM} {sz : Nat} : FrameBlind (jxPre Θ as σ sz) := fun a U g mk q => ⟨q.1, q.2.1, q.2.2.1, va_K.moved (u := U) (U := U.calling g mk a) (Vm.Alike.refl U.vm) q.2.2.2.1, fun w hw => jxnst_same (s := U) (U := U.calling g mk a) rfl hw (q.2.2.2.2 w hw)⟩
theorem jxMet.of {l : Launch} {y : MethodName} {rm : Room} {Θ : jxT} {as : List jxV} {σ : jxM} {Φ : jxF} {cc : ByteArray} {maxL : Nat} {ret : Option FieldType} {own : String} (hI : jxI Θ) (hy : plainName y.cls = true) (ho : y.cls = own) (hlen : as.length ≤ maxL)
    (body : ∀ Γ : jxG, jxOk Γ Θ l cc maxL own ret rm → jxW Γ Θ Φ 0 (as.map some ++ List.replicate (maxL - as.length) none) [] σ) : jxMet l y cc maxL ret rm Θ as σ Φ := by
  intro sz
  subst ho
  refine Met.ofW hy rfl ?_
  intro p e s m args below meth c s₁ B hml hv
  obtain ⟨rfl, hsz, hP, hS⟩ := hv
  subst hsz
  rw [lg_entry_eq]
  exact body (p, l, e, (headSpec (Cond.code y cc maxL ret :: jW) rm).room, s, m, (as.map (jxe Θ.2.2.1)).toArray, below, meth, c, jxA Θ s.heap.size) ⟨B.exec, B.bytes, hml, findClass_of_methodNamed B.named, fun w hw => atoms_spec (ws := Cond.code y cc maxL ret :: jW) B.pre w (List.mem_cons_of_mem _ hw), B.returns, B.notSynchronized, hS, hI, fun g r h => Or.inl ⟨g, r, h, rfl⟩, fun q h => Or.inr h, rfl, rfl⟩ s.heap [] _ hP va_S.rf (jxL.entry Θ.2.2.1 as hlen)
theorem jxMet.weaken {l : Launch} {y : MethodName} {cc : ByteArray} {maxL : Nat} {ret : Option FieldType} {rm : Room} {Θ : jxT} {as : List jxV} {σ : jxM} {Φ Ψ : jxF} (h : jxMet l y cc maxL ret rm Θ as σ Φ) (hi : ∀ r σ', Φ r σ' → Ψ r σ') : jxMet l y cc maxL ret rm Θ as σ Ψ := by
  intro sz p e ha hc hk s m args below hf happ hP hK
  obtain ⟨n, o, h1, h2, h3, ⟨⟨r, σ', h4, h5, h6⟩, h7⟩, h8⟩ := h sz p e ha hc hk s m args below hf happ hP hK
  exact ⟨n, o, h1, h2, h3, ⟨⟨r, σ', h4, hi _ _ h5, h6⟩, h7⟩, h8⟩
end
section
/-! Rows over jxW: one an instruction. -/
section JR
variable {Γ : jxG} {Θ : jxT} {Φ : jxF} {l : Launch} {cc : ByteArray} {nL : Nat} {own : String} {ret : Option FieldType} {rm : Room} {pc q : Nat} {L : List (Option jxV)} {st : List jxV} {σ : jxM}
theorem j_iconst (X : jxOk Γ Θ l cc nL own ret rm) {n : Int} {v : Int32} (hd : decode cc pc = .ok (.iconst n, 1)) (hv : Int32.ofInt n = v) (hq : pc + 1 = q)
    (k : jxW Γ Θ Φ q L (.inl v :: st) σ) : jxW Γ Θ Φ pc L st σ := by
  subst hq
  obtain ⟨p, l', e, R, s, m, args, below, meth, c, A⟩ := Γ
  obtain ⟨hx, hb, hml, hown, hts, hret, hlk, hS0, hI, hA1, hA2, hR0, hl0⟩ := X
  intro H locs ls hP hS hl
  exact lv_iconst hx hb hd hv (k H locs ls hP hS hl)
theorem j_bipush (X : jxOk Γ Θ l cc nL own ret rm) {n : Int} {v : Int32} (hd : decode cc pc = .ok (.bipush n, 2)) (hv : (Int8.ofInt n).toInt32 = v) (hq : pc + 2 = q)
    (k : jxW Γ Θ Φ q L (.inl v :: st) σ) : jxW Γ Θ Φ pc L st σ := by
  subst hq
  obtain ⟨p, l', e, R, s, m, args, below, meth, c, A⟩ := Γ
  obtain ⟨hx, hb, hml, hown, hts, hret, hlk, hS0, hI, hA1, hA2, hR0, hl0⟩ := X
  intro H locs ls hP hS hl
  exact lv_bipush hx hb hd hv (k H locs ls hP hS hl)
theorem j_sipush (X : jxOk Γ Θ l cc nL own ret rm) {n : Int} {v : Int32} (hd : decode cc pc = .ok (.sipush n, 3)) (hv : (Int16.ofInt n).toInt32 = v) (hq : pc + 3 = q)
    (k : jxW Γ Θ Φ q L (.inl v :: st) σ) : jxW Γ Θ Φ pc L st σ := by
  subst hq
  obtain ⟨p, l', e, R, s, m, args, below, meth, c, A⟩ := Γ
  obtain ⟨hx, hb, hml, hown, hts, hret, hlk, hS0, hI, hA1, hA2, hR0, hl0⟩ := X
  intro H locs ls hP hS hl
  exact lv_sipush hx hb hd hv (k H locs ls hP hS hl)
theorem j_iload_n (X : jxOk Γ Θ l cc nL own ret rm) {i : Fin 4} {x : Int32} (hd : decode cc pc = .ok (.iload_n i, 1)) (h : L[(i : Nat)]? = some (some (.inl x))) (hq : pc + 1 = q)
    (k : jxW Γ Θ Φ q L (.inl x :: st) σ) : jxW Γ Θ Φ pc L st σ := by
  subst hq
  obtain ⟨p, l', e, R, s, m, args, below, meth, c, A⟩ := Γ
  obtain ⟨hx, hb, hml, hown, hts, hret, hlk, hS0, hI, hA1, hA2, hR0, hl0⟩ := X
  intro H locs ls hP hS hl
  exact lv_iload_n hx hb hd rfl (hl.2.2 _ _ h) (k H locs ls hP hS hl)
theorem j_iload (X : jxOk Γ Θ l cc nL own ret rm) {i : Nat} {x : Int32} (hd : decode cc pc = .ok (.iload i, 2)) (h : L[i]? = some (some (.inl x))) (hq : pc + 2 = q)
    (k : jxW Γ Θ Φ q L (.inl x :: st) σ) : jxW Γ Θ Φ pc L st σ := by
  subst hq
  obtain ⟨p, l', e, R, s, m, args, below, meth, c, A⟩ := Γ
  obtain ⟨hx, hb, hml, hown, hts, hret, hlk, hS0, hI, hA1, hA2, hR0, hl0⟩ := X
  intro H locs ls hP hS hl
  exact lv_iload hx hb hd (hl.2.2 _ _ h) (k H locs ls hP hS hl)
theorem j_aload_n (X : jxOk Γ Θ l cc nL own ret rm) {i : Fin 4} {x : Nat × Nat} (hd : decode cc pc = .ok (.aload_n i, 1)) (h : L[(i : Nat)]? = some (some (.inr x))) (hq : pc + 1 = q)
    (k : jxW Γ Θ Φ q L (.inr x :: st) σ) : jxW Γ Θ Φ pc L st σ := by
  subst hq
  obtain ⟨p, l', e, R, s, m, args, below, meth, c, A⟩ := Γ
  obtain ⟨hx, hb, hml, hown, hts, hret, hlk, hS0, hI, hA1, hA2, hR0, hl0⟩ := X
  intro H locs ls hP hS hl
  exact lv_aload_n hx hb hd rfl (hl.2.2 _ _ h) (k H locs ls hP hS hl)
theorem j_aload (X : jxOk Γ Θ l cc nL own ret rm) {i : Nat} {x : Nat × Nat} (hd : decode cc pc = .ok (.aload i, 2)) (h : L[i]? = some (some (.inr x))) (hq : pc + 2 = q)
    (k : jxW Γ Θ Φ q L (.inr x :: st) σ) : jxW Γ Θ Φ pc L st σ := by
  subst hq
  obtain ⟨p, l', e, R, s, m, args, below, meth, c, A⟩ := Γ
  obtain ⟨hx, hb, hml, hown, hts, hret, hlk, hS0, hI, hA1, hA2, hR0, hl0⟩ := X
  intro H locs ls hP hS hl
  exact lv_aload hx hb hd (hl.2.2 _ _ h) (k H locs ls hP hS hl)
theorem j_istore_n (X : jxOk Γ Θ l cc nL own ret rm) {i : Fin 4} {j : Nat} {x : Int32} (hd : decode cc pc = .ok (.istore_n i, 1)) (hij : (i : Nat) = j) (hi : j < L.length) (hq : pc + 1 = q)
    (k : jxW Γ Θ Φ q (L.set j (some (.inl x))) st σ) : jxW Γ Θ Φ pc L (.inl x :: st) σ := by
  subst hq
  obtain ⟨p, l', e, R, s, m, args, below, meth, c, A⟩ := Γ
  obtain ⟨hx, hb, hml, hown, hts, hret, hlk, hS0, hI, hA1, hA2, hR0, hl0⟩ := X
  intro H locs ls hP hS hl
  exact lv_istore_n hx hb hd hij hl.has hi rfl (fun ls' h' => k H locs ls' hP hS (jxL.put h'))
theorem j_istore (X : jxOk Γ Θ l cc nL own ret rm) {i : Nat} {x : Int32} (hd : decode cc pc = .ok (.istore i, 2)) (hi : i < L.length) (hq : pc + 2 = q)
    (k : jxW Γ Θ Φ q (L.set i (some (.inl x))) st σ) : jxW Γ Θ Φ pc L (.inl x :: st) σ := by
  subst hq
  obtain ⟨p, l', e, R, s, m, args, below, meth, c, A⟩ := Γ
  obtain ⟨hx, hb, hml, hown, hts, hret, hlk, hS0, hI, hA1, hA2, hR0, hl0⟩ := X
  intro H locs ls hP hS hl
  exact lv_istore hx hb hd hl.has hi rfl (fun ls' h' => k H locs ls' hP hS (jxL.put h'))
theorem j_astore_n (X : jxOk Γ Θ l cc nL own ret rm) {i : Fin 4} {j : Nat} {x : Nat × Nat} (hd : decode cc pc = .ok (.astore_n i, 1)) (hij : (i : Nat) = j) (hi : j < L.length) (hq : pc + 1 = q)
    (k : jxW Γ Θ Φ q (L.set j (some (.inr x))) st σ) : jxW Γ Θ Φ pc L (.inr x :: st) σ := by
  subst hq
  obtain ⟨p, l', e, R, s, m, args, below, meth, c, A⟩ := Γ
  obtain ⟨hx, hb, hml, hown, hts, hret, hlk, hS0, hI, hA1, hA2, hR0, hl0⟩ := X
  intro H locs ls hP hS hl
  exact lv_astore_n hx hb hd hij hl.has hi rfl (fun ls' h' => k H locs ls' hP hS (jxL.put h'))
theorem j_astore (X : jxOk Γ Θ l cc nL own ret rm) {i : Nat} {x : Nat × Nat} (hd : decode cc pc = .ok (.astore i, 2)) (hi : i < L.length) (hq : pc + 2 = q)
    (k : jxW Γ Θ Φ q (L.set i (some (.inr x))) st σ) : jxW Γ Θ Φ pc L (.inr x :: st) σ := by
  subst hq
  obtain ⟨p, l', e, R, s, m, args, below, meth, c, A⟩ := Γ
  obtain ⟨hx, hb, hml, hown, hts, hret, hlk, hS0, hI, hA1, hA2, hR0, hl0⟩ := X
  intro H locs ls hP hS hl
  exact lv_astore hx hb hd hl.has hi rfl (fun ls' h' => k H locs ls' hP hS (jxL.put h'))
theorem j_iinc (X : jxOk Γ Θ l cc nL own ret rm) {i : Nat} {n : Int} {x v : Int32} (hd : decode cc pc = .ok (.iinc i n, 3)) (h : L[i]? = some (some (.inl x))) (hv : x + Int32.ofInt n = v) (hq : pc + 3 = q)
    (k : jxW Γ Θ Φ q (L.set i (some (.inl v))) st σ) : jxW Γ Θ Φ pc L st σ := by
  subst hq
  obtain ⟨p, l', e, R, s, m, args, below, meth, c, A⟩ := Γ
  obtain ⟨hx, hb, hml, hown, hts, hret, hlk, hS0, hI, hA1, hA2, hR0, hl0⟩ := X
  intro H locs ls hP hS hl
  obtain ⟨kk, hkk⟩ := List.getElem?_of_mem ((jxpr_mem Θ.2.2.1 0 L (i, Value.int x)).mpr ⟨i, .inl x, h, by simp [jxe]⟩)
  exact lv_iinc hx hb hd hl.has hkk hv (List.getElem?_eq_some_iff.mp h).1 rfl (fun ls' h' => k H locs ls' hP hS (jxL.put h'))
theorem j_iadd (X : jxOk Γ Θ l cc nL own ret rm) {x y : Int32} (hd : decode cc pc = .ok (.iadd, 1))  (hq : pc + 1 = q)
    (k : jxW Γ Θ Φ q L (.inl (x + y) :: st) σ) : jxW Γ Θ Φ pc L (.inl y :: .inl x :: st) σ := by
  subst hq
  obtain ⟨p, l', e, R, s, m, args, below, meth, c, A⟩ := Γ
  obtain ⟨hx, hb, hml, hown, hts, hret, hlk, hS0, hI, hA1, hA2, hR0, hl0⟩ := X
  intro H locs ls hP hS hl
  exact lv_iadd hx hb hd (k H locs ls hP hS hl)
theorem j_isub (X : jxOk Γ Θ l cc nL own ret rm) {x y : Int32} (hd : decode cc pc = .ok (.isub, 1))  (hq : pc + 1 = q)
    (k : jxW Γ Θ Φ q L (.inl (x - y) :: st) σ) : jxW Γ Θ Φ pc L (.inl y :: .inl x :: st) σ := by
  subst hq
  obtain ⟨p, l', e, R, s, m, args, below, meth, c, A⟩ := Γ
  obtain ⟨hx, hb, hml, hown, hts, hret, hlk, hS0, hI, hA1, hA2, hR0, hl0⟩ := X
  intro H locs ls hP hS hl
  exact lv_isub hx hb hd (k H locs ls hP hS hl)
theorem j_imul (X : jxOk Γ Θ l cc nL own ret rm) {x y : Int32} (hd : decode cc pc = .ok (.imul, 1))  (hq : pc + 1 = q)
    (k : jxW Γ Θ Φ q L (.inl (x * y) :: st) σ) : jxW Γ Θ Φ pc L (.inl y :: .inl x :: st) σ := by
  subst hq
  obtain ⟨p, l', e, R, s, m, args, below, meth, c, A⟩ := Γ
  obtain ⟨hx, hb, hml, hown, hts, hret, hlk, hS0, hI, hA1, hA2, hR0, hl0⟩ := X
  intro H locs ls hP hS hl
  exact lv_imul hx hb hd (k H locs ls hP hS hl)
theorem j_iand (X : jxOk Γ Θ l cc nL own ret rm) {x y : Int32} (hd : decode cc pc = .ok (.iand, 1))  (hq : pc + 1 = q)
    (k : jxW Γ Θ Φ q L (.inl (x &&& y) :: st) σ) : jxW Γ Θ Φ pc L (.inl y :: .inl x :: st) σ := by
  subst hq
  obtain ⟨p, l', e, R, s, m, args, below, meth, c, A⟩ := Γ
  obtain ⟨hx, hb, hml, hown, hts, hret, hlk, hS0, hI, hA1, hA2, hR0, hl0⟩ := X
  intro H locs ls hP hS hl
  exact lv_iand hx hb hd (k H locs ls hP hS hl)
theorem j_ior (X : jxOk Γ Θ l cc nL own ret rm) {x y : Int32} (hd : decode cc pc = .ok (.ior, 1))  (hq : pc + 1 = q)
    (k : jxW Γ Θ Φ q L (.inl (x ||| y) :: st) σ) : jxW Γ Θ Φ pc L (.inl y :: .inl x :: st) σ := by
  subst hq
  obtain ⟨p, l', e, R, s, m, args, below, meth, c, A⟩ := Γ
  obtain ⟨hx, hb, hml, hown, hts, hret, hlk, hS0, hI, hA1, hA2, hR0, hl0⟩ := X
  intro H locs ls hP hS hl
  exact lv_ior hx hb hd (k H locs ls hP hS hl)
theorem j_ixor (X : jxOk Γ Θ l cc nL own ret rm) {x y : Int32} (hd : decode cc pc = .ok (.ixor, 1))  (hq : pc + 1 = q)
    (k : jxW Γ Θ Φ q L (.inl (x ^^^ y) :: st) σ) : jxW Γ Θ Φ pc L (.inl y :: .inl x :: st) σ := by
  subst hq
  obtain ⟨p, l', e, R, s, m, args, below, meth, c, A⟩ := Γ
  obtain ⟨hx, hb, hml, hown, hts, hret, hlk, hS0, hI, hA1, hA2, hR0, hl0⟩ := X
  intro H locs ls hP hS hl
  exact lv_ixor hx hb hd (k H locs ls hP hS hl)
theorem j_ishl (X : jxOk Γ Θ l cc nL own ret rm) {x y : Int32} (hd : decode cc pc = .ok (.ishl, 1))  (hq : pc + 1 = q)
    (k : jxW Γ Θ Φ q L (.inl (x <<< (y &&& 31)) :: st) σ) : jxW Γ Θ Φ pc L (.inl y :: .inl x :: st) σ := by
  subst hq
  obtain ⟨p, l', e, R, s, m, args, below, meth, c, A⟩ := Γ
  obtain ⟨hx, hb, hml, hown, hts, hret, hlk, hS0, hI, hA1, hA2, hR0, hl0⟩ := X
  intro H locs ls hP hS hl
  exact lv_ishl hx hb hd (k H locs ls hP hS hl)
theorem j_ishr (X : jxOk Γ Θ l cc nL own ret rm) {x y : Int32} (hd : decode cc pc = .ok (.ishr, 1))  (hq : pc + 1 = q)
    (k : jxW Γ Θ Φ q L (.inl (x >>> (y &&& 31)) :: st) σ) : jxW Γ Θ Φ pc L (.inl y :: .inl x :: st) σ := by
  subst hq
  obtain ⟨p, l', e, R, s, m, args, below, meth, c, A⟩ := Γ
  obtain ⟨hx, hb, hml, hown, hts, hret, hlk, hS0, hI, hA1, hA2, hR0, hl0⟩ := X
  intro H locs ls hP hS hl
  exact lv_ishr hx hb hd (k H locs ls hP hS hl)
theorem j_iushr (X : jxOk Γ Θ l cc nL own ret rm) {x y v : Int32} (hd : decode cc pc = .ok (.iushr, 1)) (hv : (x.toUInt32 >>> (y.toUInt32 &&& Int32.toUInt32 31)).toInt32 = v) (hq : pc + 1 = q)
    (k : jxW Γ Θ Φ q L (.inl v :: st) σ) : jxW Γ Θ Φ pc L (.inl y :: .inl x :: st) σ := by
  subst hq
  obtain ⟨p, l', e, R, s, m, args, below, meth, c, A⟩ := Γ
  obtain ⟨hx, hb, hml, hown, hts, hret, hlk, hS0, hI, hA1, hA2, hR0, hl0⟩ := X
  intro H locs ls hP hS hl
  exact lv_iushr hx hb hd hv (k H locs ls hP hS hl)
theorem j_irem (X : jxOk Γ Θ l cc nL own ret rm) {x y : Int32} (hd : decode cc pc = .ok (.irem, 1)) (hne : ¬ y = 0) (hq : pc + 1 = q)
    (k : jxW Γ Θ Φ q L (.inl (x - x / y * y) :: st) σ) : jxW Γ Θ Φ pc L (.inl y :: .inl x :: st) σ := by
  subst hq
  obtain ⟨p, l', e, R, s, m, args, below, meth, c, A⟩ := Γ
  obtain ⟨hx, hb, hml, hown, hts, hret, hlk, hS0, hI, hA1, hA2, hR0, hl0⟩ := X
  intro H locs ls hP hS hl
  exact lv_irem hx hb hd hne (k H locs ls hP hS hl)
theorem j_dup (X : jxOk Γ Θ l cc nL own ret rm) {a : jxV} (hd : decode cc pc = .ok (.dup, 1))  (hq : pc + 1 = q)
    (k : jxW Γ Θ Φ q L (a :: a :: st) σ) : jxW Γ Θ Φ pc L (a :: st) σ := by
  subst hq
  obtain ⟨p, l', e, R, s, m, args, below, meth, c, A⟩ := Γ
  obtain ⟨hx, hb, hml, hown, hts, hret, hlk, hS0, hI, hA1, hA2, hR0, hl0⟩ := X
  intro H locs ls hP hS hl
  exact lv_dup hx hb hd (jxe_cat _ a) (k H locs ls hP hS hl)
theorem j_pop (X : jxOk Γ Θ l cc nL own ret rm) {a : jxV} (hd : decode cc pc = .ok (.pop, 1))  (hq : pc + 1 = q)
    (k : jxW Γ Θ Φ q L st σ) : jxW Γ Θ Φ pc L (a :: st) σ := by
  subst hq
  obtain ⟨p, l', e, R, s, m, args, below, meth, c, A⟩ := Γ
  obtain ⟨hx, hb, hml, hown, hts, hret, hlk, hS0, hI, hA1, hA2, hR0, hl0⟩ := X
  intro H locs ls hP hS hl
  exact lv_pop hx hb hd (jxe_cat _ a) (k H locs ls hP hS hl)
theorem j_dup_x1 (X : jxOk Γ Θ l cc nL own ret rm) {a b : jxV} (hd : decode cc pc = .ok (.dup_x1, 1))  (hq : pc + 1 = q)
    (k : jxW Γ Θ Φ q L (a :: b :: a :: st) σ) : jxW Γ Θ Φ pc L (a :: b :: st) σ := by
  subst hq
  obtain ⟨p, l', e, R, s, m, args, below, meth, c, A⟩ := Γ
  obtain ⟨hx, hb, hml, hown, hts, hret, hlk, hS0, hI, hA1, hA2, hR0, hl0⟩ := X
  intro H locs ls hP hS hl
  exact lv_dup_x1 hx hb hd (jxe_cat _ a) (jxe_cat _ b) (k H locs ls hP hS hl)
theorem j_dup_x2 (X : jxOk Γ Θ l cc nL own ret rm) {a b d : jxV} (hd : decode cc pc = .ok (.dup_x2, 1))  (hq : pc + 1 = q)
    (k : jxW Γ Θ Φ q L (a :: b :: d :: a :: st) σ) : jxW Γ Θ Φ pc L (a :: b :: d :: st) σ := by
  subst hq
  obtain ⟨p, l', e, R, s, m, args, below, meth, c, A⟩ := Γ
  obtain ⟨hx, hb, hml, hown, hts, hret, hlk, hS0, hI, hA1, hA2, hR0, hl0⟩ := X
  intro H locs ls hP hS hl
  exact lv_dup_x2 hx hb hd (jxe_cat _ a) (jxe_cat _ b) (jxe_cat _ d) (k H locs ls hP hS hl)
theorem j_dup2 (X : jxOk Γ Θ l cc nL own ret rm) {a b : jxV} (hd : decode cc pc = .ok (.dup2, 1))  (hq : pc + 1 = q)
    (k : jxW Γ Θ Φ q L (a :: b :: a :: b :: st) σ) : jxW Γ Θ Φ pc L (a :: b :: st) σ := by
  subst hq
  obtain ⟨p, l', e, R, s, m, args, below, meth, c, A⟩ := Γ
  obtain ⟨hx, hb, hml, hown, hts, hret, hlk, hS0, hI, hA1, hA2, hR0, hl0⟩ := X
  intro H locs ls hP hS hl
  exact lv_dup2_11 hx hb hd (jxe_cat _ a) (jxe_cat _ b) (k H locs ls hP hS hl)
theorem j_if_eq (X : jxOk Γ Θ l cc nL own ret rm) {x : Int32} {off : Int} {tgt : Nat} (hd : decode cc pc = .ok (.ifCond .eq off, 3)) (ht : (pc : Int) + off = (tgt : Int)) (hq : pc + 3 = q)
    (kt : x = 0 → jxW Γ Θ Φ tgt L st σ) (kf : ¬ x = 0 → jxW Γ Θ Φ q L st σ) : jxW Γ Θ Φ pc L (.inl x :: st) σ := by
  subst hq
  obtain ⟨p, l', e, R, s, m, args, below, meth, c, A⟩ := Γ
  obtain ⟨hx, hb, hml, hown, hts, hret, hlk, hS0, hI, hA1, hA2, hR0, hl0⟩ := X
  intro H locs ls hP hS hl
  exact lv_if_eq hx hb hd ht (fun h => kt h H locs ls hP hS hl) (fun h => kf h H locs ls hP hS hl)
theorem j_icmp_eq (X : jxOk Γ Θ l cc nL own ret rm) {x y : Int32} {off : Int} {tgt : Nat} (hd : decode cc pc = .ok (.if_icmp .eq off, 3)) (ht : (pc : Int) + off = (tgt : Int)) (hq : pc + 3 = q)
    (kt : x = y → jxW Γ Θ Φ tgt L st σ) (kf : ¬ x = y → jxW Γ Θ Φ q L st σ) : jxW Γ Θ Φ pc L (.inl y :: .inl x :: st) σ := by
  subst hq
  obtain ⟨p, l', e, R, s, m, args, below, meth, c, A⟩ := Γ
  obtain ⟨hx, hb, hml, hown, hts, hret, hlk, hS0, hI, hA1, hA2, hR0, hl0⟩ := X
  intro H locs ls hP hS hl
  exact lv_icmp_eq hx hb hd ht (fun h => kt h H locs ls hP hS hl) (fun h => kf h H locs ls hP hS hl)
theorem j_if_ne (X : jxOk Γ Θ l cc nL own ret rm) {x : Int32} {off : Int} {tgt : Nat} (hd : decode cc pc = .ok (.ifCond .ne off, 3)) (ht : (pc : Int) + off = (tgt : Int)) (hq : pc + 3 = q)
    (kt : ¬ x = 0 → jxW Γ Θ Φ tgt L st σ) (kf : x = 0 → jxW Γ Θ Φ q L st σ) : jxW Γ Θ Φ pc L (.inl x :: st) σ := by
  subst hq
  obtain ⟨p, l', e, R, s, m, args, below, meth, c, A⟩ := Γ
  obtain ⟨hx, hb, hml, hown, hts, hret, hlk, hS0, hI, hA1, hA2, hR0, hl0⟩ := X
  intro H locs ls hP hS hl
  exact lv_if_ne hx hb hd ht (fun h => kt h H locs ls hP hS hl) (fun h => kf h H locs ls hP hS hl)
theorem j_icmp_ne (X : jxOk Γ Θ l cc nL own ret rm) {x y : Int32} {off : Int} {tgt : Nat} (hd : decode cc pc = .ok (.if_icmp .ne off, 3)) (ht : (pc : Int) + off = (tgt : Int)) (hq : pc + 3 = q)
    (kt : ¬ x = y → jxW Γ Θ Φ tgt L st σ) (kf : x = y → jxW Γ Θ Φ q L st σ) : jxW Γ Θ Φ pc L (.inl y :: .inl x :: st) σ := by
  subst hq
  obtain ⟨p, l', e, R, s, m, args, below, meth, c, A⟩ := Γ
  obtain ⟨hx, hb, hml, hown, hts, hret, hlk, hS0, hI, hA1, hA2, hR0, hl0⟩ := X
  intro H locs ls hP hS hl
  exact lv_icmp_ne hx hb hd ht (fun h => kt h H locs ls hP hS hl) (fun h => kf h H locs ls hP hS hl)
theorem j_if_lt (X : jxOk Γ Θ l cc nL own ret rm) {x : Int32} {off : Int} {tgt : Nat} (hd : decode cc pc = .ok (.ifCond .lt off, 3)) (ht : (pc : Int) + off = (tgt : Int)) (hq : pc + 3 = q)
    (kt : x < 0 → jxW Γ Θ Φ tgt L st σ) (kf : ¬ x < 0 → jxW Γ Θ Φ q L st σ) : jxW Γ Θ Φ pc L (.inl x :: st) σ := by
  subst hq
  obtain ⟨p, l', e, R, s, m, args, below, meth, c, A⟩ := Γ
  obtain ⟨hx, hb, hml, hown, hts, hret, hlk, hS0, hI, hA1, hA2, hR0, hl0⟩ := X
  intro H locs ls hP hS hl
  exact lv_if_lt hx hb hd ht (fun h => kt h H locs ls hP hS hl) (fun h => kf h H locs ls hP hS hl)
theorem j_icmp_lt (X : jxOk Γ Θ l cc nL own ret rm) {x y : Int32} {off : Int} {tgt : Nat} (hd : decode cc pc = .ok (.if_icmp .lt off, 3)) (ht : (pc : Int) + off = (tgt : Int)) (hq : pc + 3 = q)
    (kt : x < y → jxW Γ Θ Φ tgt L st σ) (kf : ¬ x < y → jxW Γ Θ Φ q L st σ) : jxW Γ Θ Φ pc L (.inl y :: .inl x :: st) σ := by
  subst hq
  obtain ⟨p, l', e, R, s, m, args, below, meth, c, A⟩ := Γ
  obtain ⟨hx, hb, hml, hown, hts, hret, hlk, hS0, hI, hA1, hA2, hR0, hl0⟩ := X
  intro H locs ls hP hS hl
  exact lv_icmp_lt hx hb hd ht (fun h => kt h H locs ls hP hS hl) (fun h => kf h H locs ls hP hS hl)
theorem j_if_ge (X : jxOk Γ Θ l cc nL own ret rm) {x : Int32} {off : Int} {tgt : Nat} (hd : decode cc pc = .ok (.ifCond .ge off, 3)) (ht : (pc : Int) + off = (tgt : Int)) (hq : pc + 3 = q)
    (kt : 0 ≤ x → jxW Γ Θ Φ tgt L st σ) (kf : ¬ 0 ≤ x → jxW Γ Θ Φ q L st σ) : jxW Γ Θ Φ pc L (.inl x :: st) σ := by
  subst hq
  obtain ⟨p, l', e, R, s, m, args, below, meth, c, A⟩ := Γ
  obtain ⟨hx, hb, hml, hown, hts, hret, hlk, hS0, hI, hA1, hA2, hR0, hl0⟩ := X
  intro H locs ls hP hS hl
  exact lv_if_ge hx hb hd ht (fun h => kt h H locs ls hP hS hl) (fun h => kf h H locs ls hP hS hl)
theorem j_icmp_ge (X : jxOk Γ Θ l cc nL own ret rm) {x y : Int32} {off : Int} {tgt : Nat} (hd : decode cc pc = .ok (.if_icmp .ge off, 3)) (ht : (pc : Int) + off = (tgt : Int)) (hq : pc + 3 = q)
    (kt : y ≤ x → jxW Γ Θ Φ tgt L st σ) (kf : ¬ y ≤ x → jxW Γ Θ Φ q L st σ) : jxW Γ Θ Φ pc L (.inl y :: .inl x :: st) σ := by
  subst hq
  obtain ⟨p, l', e, R, s, m, args, below, meth, c, A⟩ := Γ
  obtain ⟨hx, hb, hml, hown, hts, hret, hlk, hS0, hI, hA1, hA2, hR0, hl0⟩ := X
  intro H locs ls hP hS hl
  exact lv_icmp_ge hx hb hd ht (fun h => kt h H locs ls hP hS hl) (fun h => kf h H locs ls hP hS hl)
theorem j_if_gt (X : jxOk Γ Θ l cc nL own ret rm) {x : Int32} {off : Int} {tgt : Nat} (hd : decode cc pc = .ok (.ifCond .gt off, 3)) (ht : (pc : Int) + off = (tgt : Int)) (hq : pc + 3 = q)
    (kt : 0 < x → jxW Γ Θ Φ tgt L st σ) (kf : ¬ 0 < x → jxW Γ Θ Φ q L st σ) : jxW Γ Θ Φ pc L (.inl x :: st) σ := by
  subst hq
  obtain ⟨p, l', e, R, s, m, args, below, meth, c, A⟩ := Γ
  obtain ⟨hx, hb, hml, hown, hts, hret, hlk, hS0, hI, hA1, hA2, hR0, hl0⟩ := X
  intro H locs ls hP hS hl
  exact lv_if_gt hx hb hd ht (fun h => kt h H locs ls hP hS hl) (fun h => kf h H locs ls hP hS hl)
theorem j_icmp_gt (X : jxOk Γ Θ l cc nL own ret rm) {x y : Int32} {off : Int} {tgt : Nat} (hd : decode cc pc = .ok (.if_icmp .gt off, 3)) (ht : (pc : Int) + off = (tgt : Int)) (hq : pc + 3 = q)
    (kt : y < x → jxW Γ Θ Φ tgt L st σ) (kf : ¬ y < x → jxW Γ Θ Φ q L st σ) : jxW Γ Θ Φ pc L (.inl y :: .inl x :: st) σ := by
  subst hq
  obtain ⟨p, l', e, R, s, m, args, below, meth, c, A⟩ := Γ
  obtain ⟨hx, hb, hml, hown, hts, hret, hlk, hS0, hI, hA1, hA2, hR0, hl0⟩ := X
  intro H locs ls hP hS hl
  exact lv_icmp_gt hx hb hd ht (fun h => kt h H locs ls hP hS hl) (fun h => kf h H locs ls hP hS hl)
theorem j_if_le (X : jxOk Γ Θ l cc nL own ret rm) {x : Int32} {off : Int} {tgt : Nat} (hd : decode cc pc = .ok (.ifCond .le off, 3)) (ht : (pc : Int) + off = (tgt : Int)) (hq : pc + 3 = q)
    (kt : x ≤ 0 → jxW Γ Θ Φ tgt L st σ) (kf : ¬ x ≤ 0 → jxW Γ Θ Φ q L st σ) : jxW Γ Θ Φ pc L (.inl x :: st) σ := by
  subst hq
  obtain ⟨p, l', e, R, s, m, args, below, meth, c, A⟩ := Γ
  obtain ⟨hx, hb, hml, hown, hts, hret, hlk, hS0, hI, hA1, hA2, hR0, hl0⟩ := X
  intro H locs ls hP hS hl
  exact lv_if_le hx hb hd ht (fun h => kt h H locs ls hP hS hl) (fun h => kf h H locs ls hP hS hl)
theorem j_icmp_le (X : jxOk Γ Θ l cc nL own ret rm) {x y : Int32} {off : Int} {tgt : Nat} (hd : decode cc pc = .ok (.if_icmp .le off, 3)) (ht : (pc : Int) + off = (tgt : Int)) (hq : pc + 3 = q)
    (kt : x ≤ y → jxW Γ Θ Φ tgt L st σ) (kf : ¬ x ≤ y → jxW Γ Θ Φ q L st σ) : jxW Γ Θ Φ pc L (.inl y :: .inl x :: st) σ := by
  subst hq
  obtain ⟨p, l', e, R, s, m, args, below, meth, c, A⟩ := Γ
  obtain ⟨hx, hb, hml, hown, hts, hret, hlk, hS0, hI, hA1, hA2, hR0, hl0⟩ := X
  intro H locs ls hP hS hl
  exact lv_icmp_le hx hb hd ht (fun h => kt h H locs ls hP hS hl) (fun h => kf h H locs ls hP hS hl)
theorem j_ncmp_eq (X : jxOk Γ Θ l cc nL own ret rm) {a b : Nat} {off : Int} {tgt : Nat} (hd : decode cc pc = .ok (.if_icmp .eq off, 3)) (ht : (pc : Int) + off = (tgt : Int)) (hq : pc + 3 = q) (ha : a < 2 ^ 31) (hb : b < 2 ^ 31)
    (kt : a = b → jxW Γ Θ Φ tgt L st σ) (kf : ¬ a = b → jxW Γ Θ Φ q L st σ) : jxW Γ Θ Φ pc L (.inl (nI b) :: .inl (nI a) :: st) σ := by
  have e := nI_eq ha hb
  exact j_icmp_eq X hd ht hq (fun h => kt (e.mp h)) (fun h => kf (fun z => h (e.mpr z)))
theorem j_nif_eq (X : jxOk Γ Θ l cc nL own ret rm) {a : Nat} {off : Int} {tgt : Nat} (hd : decode cc pc = .ok (.ifCond .eq off, 3)) (ht : (pc : Int) + off = (tgt : Int)) (hq : pc + 3 = q) (ha : a < 2 ^ 31)
    (kt : a = 0 → jxW Γ Θ Φ tgt L st σ) (kf : ¬ a = 0 → jxW Γ Θ Φ q L st σ) : jxW Γ Θ Φ pc L (.inl (nI a) :: st) σ := by
  have e := nI_eq ha (by decide : 0 < 2 ^ 31)
  exact j_if_eq X hd ht hq (fun h => kt (e.mp (by rw [nI_0]; exact h))) (fun h => kf (fun z => h (by have := e.mpr z; rw [nI_0] at this; exact this)))
theorem j_ncmp_ne (X : jxOk Γ Θ l cc nL own ret rm) {a b : Nat} {off : Int} {tgt : Nat} (hd : decode cc pc = .ok (.if_icmp .ne off, 3)) (ht : (pc : Int) + off = (tgt : Int)) (hq : pc + 3 = q) (ha : a < 2 ^ 31) (hb : b < 2 ^ 31)
    (kt : ¬ a = b → jxW Γ Θ Φ tgt L st σ) (kf : a = b → jxW Γ Θ Φ q L st σ) : jxW Γ Θ Φ pc L (.inl (nI b) :: .inl (nI a) :: st) σ := by
  have e := not_congr (nI_eq ha hb)
  exact j_icmp_ne X hd ht hq (fun h => kt (e.mp h)) (fun h => kf ((nI_eq ha hb).mp h))
theorem j_nif_ne (X : jxOk Γ Θ l cc nL own ret rm) {a : Nat} {off : Int} {tgt : Nat} (hd : decode cc pc = .ok (.ifCond .ne off, 3)) (ht : (pc : Int) + off = (tgt : Int)) (hq : pc + 3 = q) (ha : a < 2 ^ 31)
    (kt : ¬ a = 0 → jxW Γ Θ Φ tgt L st σ) (kf : a = 0 → jxW Γ Θ Φ q L st σ) : jxW Γ Θ Φ pc L (.inl (nI a) :: st) σ := by
  have e := not_congr (nI_eq ha (by decide : 0 < 2 ^ 31))
  exact j_if_ne X hd ht hq (fun h => kt (e.mp (by rw [nI_0]; exact h))) (fun h => kf ((nI_eq ha (by decide : 0 < 2 ^ 31)).mp (h.trans nI_0.symm)))
theorem j_ncmp_lt (X : jxOk Γ Θ l cc nL own ret rm) {a b : Nat} {off : Int} {tgt : Nat} (hd : decode cc pc = .ok (.if_icmp .lt off, 3)) (ht : (pc : Int) + off = (tgt : Int)) (hq : pc + 3 = q) (ha : a < 2 ^ 31) (hb : b < 2 ^ 31)
    (kt : a < b → jxW Γ Θ Φ tgt L st σ) (kf : ¬ a < b → jxW Γ Θ Φ q L st σ) : jxW Γ Θ Φ pc L (.inl (nI b) :: .inl (nI a) :: st) σ := by
  have e := nI_ltI ha hb
  exact j_icmp_lt X hd ht hq (fun h => kt (e.mp h)) (fun h => kf (fun z => h (e.mpr z)))
theorem j_ncmp_ge (X : jxOk Γ Θ l cc nL own ret rm) {a b : Nat} {off : Int} {tgt : Nat} (hd : decode cc pc = .ok (.if_icmp .ge off, 3)) (ht : (pc : Int) + off = (tgt : Int)) (hq : pc + 3 = q) (ha : a < 2 ^ 31) (hb : b < 2 ^ 31)
    (kt : b ≤ a → jxW Γ Θ Φ tgt L st σ) (kf : ¬ b ≤ a → jxW Γ Θ Φ q L st σ) : jxW Γ Θ Φ pc L (.inl (nI b) :: .inl (nI a) :: st) σ := by
  have e := nI_leI hb ha
  exact j_icmp_ge X hd ht hq (fun h => kt (e.mp h)) (fun h => kf (fun z => h (e.mpr z)))
theorem j_ncmp_gt (X : jxOk Γ Θ l cc nL own ret rm) {a b : Nat} {off : Int} {tgt : Nat} (hd : decode cc pc = .ok (.if_icmp .gt off, 3)) (ht : (pc : Int) + off = (tgt : Int)) (hq : pc + 3 = q) (ha : a < 2 ^ 31) (hb : b < 2 ^ 31)
    (kt : b < a → jxW Γ Θ Φ tgt L st σ) (kf : ¬ b < a → jxW Γ Θ Φ q L st σ) : jxW Γ Θ Φ pc L (.inl (nI b) :: .inl (nI a) :: st) σ := by
  have e := nI_ltI hb ha
  exact j_icmp_gt X hd ht hq (fun h => kt (e.mp h)) (fun h => kf (fun z => h (e.mpr z)))
theorem j_nif_gt (X : jxOk Γ Θ l cc nL own ret rm) {a : Nat} {off : Int} {tgt : Nat} (hd : decode cc pc = .ok (.ifCond .gt off, 3)) (ht : (pc : Int) + off = (tgt : Int)) (hq : pc + 3 = q) (ha : a < 2 ^ 31)
    (kt : 0 < a → jxW Γ Θ Φ tgt L st σ) (kf : ¬ 0 < a → jxW Γ Θ Φ q L st σ) : jxW Γ Θ Φ pc L (.inl (nI a) :: st) σ := by
  have e := nI_ltI (by decide : 0 < 2 ^ 31) ha
  exact j_if_gt X hd ht hq (fun h => kt (e.mp (by rw [nI_0]; exact h))) (fun h => kf (fun z => h (by have := e.mpr z; rw [nI_0] at this; exact this)))
theorem j_ncmp_le (X : jxOk Γ Θ l cc nL own ret rm) {a b : Nat} {off : Int} {tgt : Nat} (hd : decode cc pc = .ok (.if_icmp .le off, 3)) (ht : (pc : Int) + off = (tgt : Int)) (hq : pc + 3 = q) (ha : a < 2 ^ 31) (hb : b < 2 ^ 31)
    (kt : a ≤ b → jxW Γ Θ Φ tgt L st σ) (kf : ¬ a ≤ b → jxW Γ Θ Φ q L st σ) : jxW Γ Θ Φ pc L (.inl (nI b) :: .inl (nI a) :: st) σ := by
  have e := nI_leI ha hb
  exact j_icmp_le X hd ht hq (fun h => kt (e.mp h)) (fun h => kf (fun z => h (e.mpr z)))
theorem j_nif_le (X : jxOk Γ Θ l cc nL own ret rm) {a : Nat} {off : Int} {tgt : Nat} (hd : decode cc pc = .ok (.ifCond .le off, 3)) (ht : (pc : Int) + off = (tgt : Int)) (hq : pc + 3 = q) (ha : a < 2 ^ 31)
    (kt : a ≤ 0 → jxW Γ Θ Φ tgt L st σ) (kf : ¬ a ≤ 0 → jxW Γ Θ Φ q L st σ) : jxW Γ Θ Φ pc L (.inl (nI a) :: st) σ := by
  have e := nI_leI ha (by decide : 0 < 2 ^ 31)
  exact j_if_le X hd ht hq (fun h => kt (e.mp (by rw [nI_0]; exact h))) (fun h => kf (fun z => h (by have := e.mpr z; rw [nI_0] at this; exact this)))
theorem j_goto (X : jxOk Γ Θ l cc nL own ret rm) {off : Int} {tgt : Nat} (hd : decode cc pc = .ok (.goto off, 3)) (ht : (pc : Int) + off = (tgt : Int)) (k : jxW Γ Θ Φ tgt L st σ) : jxW Γ Θ Φ pc L st σ := by
  obtain ⟨p, l', e, R, s, m, args, below, meth, c, A⟩ := Γ
  obtain ⟨hx, hb, hml, hown, hts, hret, hlk, hS0, hI, hA1, hA2, hR0, hl0⟩ := X
  intro H locs ls hP hS hl
  exact lv_goto hx hb hd ht (k H locs ls hP hS hl)
theorem jxP.one {H : Heap} {g r : Nat} (h : jxP Θ σ H) (hp : Θ.2.2.2 g r) : va_P Θ.1 jxCl [(Θ.2.2.1 g r, jxcon Θ (jxk g) (σ g r))] H := by
  intro k q hk
  cases k with
  | zero => simp at hk; subst hk; exact h g r hp
  | succ k => simp at hk
theorem j_getI (X : jxOk Γ Θ l cc nL own ret rm) {ref C : String} {T : u_T} {N ci index : Nat} {fl : List (Option Nat)} {g r j : Nat} (hd : decode cc pc = .ok (.getfield index, 3)) (hin : ∀ w ∈ u_ws C T N, w ∈ jW) (hk : jxk g = .inl (ci, fl)) (hc : jxCl[ci]? = some (C, T, N)) {v : Int32} (hj : fl[j]? = some none) (hlt : j < N) (hlink : Cond.fieldLink own index ref (T j).2.1 (T j).2.2.1 ∈ jW) (href : (T j).1 = ref) (hp : Θ.2.2.2 g r) (hq : pc + 3 = q) (hv0 : σ g r j = v)
    (k : jxW Γ Θ Φ q L (.inl v :: st) σ) : jxW Γ Θ Φ pc L (.inr (g, r) :: st) σ := by
  subst hv0
  subst hq
  obtain ⟨p, l', e, R, s, m, args, below, meth, c, A⟩ := Γ
  obtain ⟨hx, hb, hml, hown, hts, hret, hlk, hS0, hI, hA1, hA2, hR0, hl0⟩ := X
  intro H locs ls hP hS hl
  have hv := jxfs_int Θ.2.2.1 (σ g r) 0 j fl hj
  rw [Nat.zero_add] at hv
  refine va_get (ws := [(Θ.2.2.1 g r, jxcon Θ (jxk g) (σ g r))]) hx hb hts hin hown hS0.1 (hP.one hp) 0 (by rw [hk]; rfl) hc j hlt (hts _ hlink) (fun x h => by rw [← href]; exact h) hv hd ?_
  exact k H locs ls hP hS hl
theorem j_getR (X : jxOk Γ Θ l cc nL own ret rm) {ref C : String} {T : u_T} {N ci index : Nat} {fl : List (Option Nat)} {g r j : Nat} (hd : decode cc pc = .ok (.getfield index, 3)) (hin : ∀ w ∈ u_ws C T N, w ∈ jW) (hk : jxk g = .inl (ci, fl)) (hc : jxCl[ci]? = some (C, T, N)) {g' : Nat} (hj : fl[j]? = some (some g')) (hlt : j < N) (hlink : Cond.fieldLink own index ref (T j).2.1 (T j).2.2.1 ∈ jW) (href : (T j).1 = ref) (hp : Θ.2.2.2 g r) (hq : pc + 3 = q)
    (k : jxW Γ Θ Φ q L ((.inr (g', 0) : jxV) :: st) σ) : jxW Γ Θ Φ pc L (.inr (g, r) :: st) σ := by
  subst hq
  obtain ⟨p, l', e, R, s, m, args, below, meth, c, A⟩ := Γ
  obtain ⟨hx, hb, hml, hown, hts, hret, hlk, hS0, hI, hA1, hA2, hR0, hl0⟩ := X
  intro H locs ls hP hS hl
  have hv := jxfs_ref Θ.2.2.1 (σ g r) 0 j g' fl hj
  refine va_get (ws := [(Θ.2.2.1 g r, jxcon Θ (jxk g) (σ g r))]) hx hb hts hin hown hS0.1 (hP.one hp) 0 (by rw [hk]; rfl) hc j hlt (hts _ hlink) (fun x h => by rw [← href]; exact h) hv hd ?_
  exact k H locs ls hP hS hl
theorem j_putI (X : jxOk Γ Θ l cc nL own ret rm) {ref C : String} {T : u_T} {N ci index : Nat} {fl : List (Option Nat)} {g r j : Nat} (hd : decode cc pc = .ok (.putfield index, 3)) (hin : ∀ w ∈ u_ws C T N, w ∈ jW) (hk : jxk g = .inl (ci, fl)) (hc : jxCl[ci]? = some (C, T, N)) (ty0 : Nat → FieldType) (hty : ∀ k, k < N → parseFieldDescriptor (T k).2.2.1 = some (ty0 k)) (hnm : ∀ a, a < N → ∀ b, b < N → a ≠ b → (T a).2.1 ≠ (T b).2.1) (hj : fl[j]? = some none) (hlt : j < N) (hlink : Cond.fieldLink own index ref (T j).2.1 (T j).2.2.1 ∈ jW) (href : (T j).1 = ref) (hp : Θ.2.2.2 g r) (hq : pc + 3 = q) (hfin : (T j).2.2.2 = false) {ty : FieldType} {x : Int32} (hdt : parseFieldDescriptor (T j).2.2.1 = some ty) (hn : narrow ty (.int x) = .int x) (hfit : fits ty (.int x) = true)
    (k : jxW Γ Θ Φ q L st (jxs σ g r j x)) : jxW Γ Θ Φ pc L (.inl x :: .inr (g, r) :: st) σ := by
  subst hq
  obtain ⟨p, l', e, R, s, m, args, below, meth, c, A⟩ := Γ
  obtain ⟨hx, hb, hml, hown, hts, hret, hlk, hS0, hI, hA1, hA2, hR0, hl0⟩ := X
  intro H locs ls hP hS hl
  have hap := va_apart (own := own) hts hin ty0 hty hnm hS0.1 hc
  have h0 := hP g r hp
  rw [hk] at h0
  obtain ⟨r0, h1, cell, q1, q2, q3, q4⟩ := h0
  have hr : r0 = (C, T, N) := Option.some.inj (h1.symm.trans hc)
  subst hr
  obtain ⟨hSl, hfc, kC, hkC, hkind⟩ := hS0.1.1 ci _ hc
  obtain ⟨cf, kf, fi, f, hi, hsl⟩ := hSl j hlt
  have hlay := hts _ (hin _ (u_in_lay hlt))
  unfold u_lay at hlay
  rw [if_neg (by rw [hfin]; decide)] at hlay
  have hst := (u_facts hfc hkC (u_lays hts hin hlt) hi).1
  have h6 := u_store hfc hkC hkind hlay hi hdt hn hfit
  refine W.putK hx hb (f := f) ⟨hown, hts _ hlink, ⟨_, _, _, by rw [← href]; exact hi⟩, hst⟩ (by rw [q2]; exact h6) q1 q3 (by rw [hsl]; exact k2_hasslot (q4 j hlt)) rfl rfl hd fun H' e1 e2 e3 => ?_
  rw [hsl] at e1 ⊢
  refine k H' _ ls (hP.set hI hp ?_ e3) (hS.put e2 e3 (hA1 g r hp)) hl
  rw [hk]
  refine ⟨_, hc, t_OB.to (V := updV (vp_V (jxfs Θ.2.2.1 (σ g r) 0 fl)) j (.int x)) ⟨_, e1, q2, q3, t_set q4 hap hlt (.int x)⟩ (fun i _ => ?_)⟩
  rw [vp_updV_set (by rw [jxfs_len]; exact (List.getElem?_eq_some_iff.mp hj).1), jxfs_set _ _ 0 j x fl hj, Nat.zero_add]
theorem j_iald (X : jxOk Γ Θ l cc nL own ret rm) {v : Int32} {g r n j : Nat} {i : Int32} (hd : decode cc pc = .ok (.iaload, 1)) (hk : jxk g = .inr (.inl (0, n))) (hn : n < 2 ^ 31) (hi : i = nI j) (hj : j < n) (hp : Θ.2.2.2 g r) (hq : pc + 1 = q) (hv0 : σ g r j = v)
    (k : jxW Γ Θ Φ q L (.inl v :: st) σ) : jxW Γ Θ Φ pc L (.inl i :: .inr (g, r) :: st) σ := by
  subst hi; subst hv0
  subst hq
  obtain ⟨p, l', e, R, s, m, args, below, meth, c, A⟩ := Γ
  obtain ⟨hx, hb, hml, hown, hts, hret, hlk, hS0, hI, hA1, hA2, hR0, hl0⟩ := X
  intro H locs ls hP hS hl
  refine va_iald (ws := [(Θ.2.2.1 g r, jxcon Θ (jxk g) (σ g r))]) (tys := jxtys Θ.2.1) (cA := Θ.2.1 0) (n := n) (f := σ g r) hx hb hS0.1 (hP.one hp) 0 0 (by rw [hk]; rfl) rfl (vp_in_nI hj hn) hd ?_
  rw [nI_clamp (by omega)]
  exact k H locs ls hP hS hl
theorem j_zald (X : jxOk Γ Θ l cc nL own ret rm) {v : Int32} {g r n j : Nat} {i : Int32} (hd : decode cc pc = .ok (.baload, 1)) (hk : jxk g = .inr (.inl (1, n))) (hn : n < 2 ^ 31) (hi : i = nI j) (hj : j < n) (hp : Θ.2.2.2 g r) (hq : pc + 1 = q) (hv0 : σ g r j = v)
    (k : jxW Γ Θ Φ q L (.inl v :: st) σ) : jxW Γ Θ Φ pc L (.inl i :: .inr (g, r) :: st) σ := by
  subst hi; subst hv0
  subst hq
  obtain ⟨p, l', e, R, s, m, args, below, meth, c, A⟩ := Γ
  obtain ⟨hx, hb, hml, hown, hts, hret, hlk, hS0, hI, hA1, hA2, hR0, hl0⟩ := X
  intro H locs ls hP hS hl
  refine va_zald (ws := [(Θ.2.2.1 g r, jxcon Θ (jxk g) (σ g r))]) (tys := jxtys Θ.2.1) (cA := Θ.2.1 1) (n := n) (f := σ g r) hx hb hS0.1 (hP.one hp) 0 1 (by rw [hk]; rfl) rfl (vp_in_nI hj hn) hd ?_
  rw [nI_clamp (by omega)]
  exact k H locs ls hP hS hl
theorem j_iast (X : jxOk Γ Θ l cc nL own ret rm) {x : Int32} {g r n j : Nat} {i : Int32} (hd : decode cc pc = .ok (.iastore, 1)) (hk : jxk g = .inr (.inl (0, n))) (hn : n < 2 ^ 31) (hi : i = nI j) (hj : j < n) (hp : Θ.2.2.2 g r) (hq : pc + 1 = q)
    (k : jxW Γ Θ Φ q L st (jxs σ g r j x)) : jxW Γ Θ Φ pc L (.inl x :: .inl i :: .inr (g, r) :: st) σ := by
  subst hi
  subst hq
  obtain ⟨p, l', e, R, s, m, args, below, meth, c, A⟩ := Γ
  obtain ⟨hx, hb, hml, hown, hts, hret, hlk, hS0, hI, hA1, hA2, hR0, hl0⟩ := X
  intro H locs ls hP hS hl
  have h0 := hP g r hp
  rw [hk] at h0
  have h0 : H[Θ.2.2.1 g r]? = some (arrV (Θ.2.1 0) n (fun j => .int (σ g r j))) := h0
  have hin := vp_in_nI hj hn
  refine W.iast hx hb h0 ((hS0.1.2 0 _ (rfl : (jxtys Θ.2.1)[0]? = some (Θ.2.1 0, .int))).1 n (fun j => .int (σ g r j))) (fun q => by cases q) (by rw [arrV_size]; exact hin) rfl rfl hd fun H1 e z oq => ?_
  rw [nI_clamp (by omega)] at e ⊢
  skip
  refine k H1 _ ls (hP.set hI hp ?_ oq) (hS.put z oq (hA1 g r hp)) hl
  rw [hk]
  show H1[Θ.2.2.1 g r]? = some (arrV (Θ.2.1 0) n (fun i => .int (upd (σ g r) j x i)))
  rw [e, arrV_store]
  congr 2
  funext i
  by_cases hq : i = j
  · subst hq
    simp [updV, upd]
  · simp [updV, upd, hq]
theorem j_zast (X : jxOk Γ Θ l cc nL own ret rm) {x : Int32} {g r n j : Nat} {i : Int32} (hd : decode cc pc = .ok (.bastore, 1)) (hk : jxk g = .inr (.inl (1, n))) (hn : n < 2 ^ 31) (hi : i = nI j) (hj : j < n) (hp : Θ.2.2.2 g r) (hq : pc + 1 = q) (hx0 : narrow .boolean (.int x) = .int x)
    (k : jxW Γ Θ Φ q L st (jxs σ g r j x)) : jxW Γ Θ Φ pc L (.inl x :: .inl i :: .inr (g, r) :: st) σ := by
  subst hi
  subst hq
  obtain ⟨p, l', e, R, s, m, args, below, meth, c, A⟩ := Γ
  obtain ⟨hx, hb, hml, hown, hts, hret, hlk, hS0, hI, hA1, hA2, hR0, hl0⟩ := X
  intro H locs ls hP hS hl
  have h0 := hP g r hp
  rw [hk] at h0
  have h0 : H[Θ.2.2.1 g r]? = some (arrV (Θ.2.1 1) n (fun j => .int (σ g r j))) := h0
  have hin := vp_in_nI hj hn
  refine W.zast hx hb h0 ((hS0.1.2 1 _ (rfl : (jxtys Θ.2.1)[1]? = some (Θ.2.1 1, .boolean))).1 n (fun j => .int (σ g r j))) (fun q => by cases q) (by rw [arrV_size]; exact hin) rfl rfl hd fun H1 e z oq => ?_
  rw [nI_clamp (by omega)] at e ⊢
  rw [hx0] at e
  refine k H1 _ ls (hP.set hI hp ?_ oq) (hS.put z oq (hA1 g r hp)) hl
  rw [hk]
  show H1[Θ.2.2.1 g r]? = some (arrV (Θ.2.1 1) n (fun i => .int (upd (σ g r) j x i)))
  rw [e, arrV_store]
  congr 2
  funext i
  by_cases hq : i = j
  · subst hq
    simp [updV, upd]
  · simp [updV, upd, hq]
theorem j_aald (X : jxOk Γ Θ l cc nL own ret rm) {g r n j g' : Nat} {i : Int32} (hd : decode cc pc = .ok (.aaload, 1)) (hk : jxk g = .inr (.inr (g', n))) (hn : n < 2 ^ 31) (hi : i = nI j) (hj : j < n) (hp : Θ.2.2.2 g r) (hq : pc + 1 = q)
    (k : jxW Γ Θ Φ q L (.inr (g', j) :: st) σ) : jxW Γ Θ Φ pc L (.inl i :: .inr (g, r) :: st) σ := by
  subst hi
  subst hq
  obtain ⟨p, l', e, R, s, m, args, below, meth, c, A⟩ := Γ
  obtain ⟨hx, hb, hml, hown, hts, hret, hlk, hS0, hI, hA1, hA2, hR0, hl0⟩ := X
  intro H locs ls hP hS hl
  have h0 := hP g r hp
  rw [hk] at h0
  have h0 : H[Θ.2.2.1 g r]? = some (arrV (Θ.2.1 2) n (fun i => va_rf (some (Θ.2.2.1 g' i)))) := h0
  have hin := vp_in_nI hj hn
  refine W.aald (v := .ref (Θ.2.2.1 g' j)) (ty := .array .int) hx hb h0 ((hS0.1.2 2 _ (rfl : (jxtys Θ.2.1)[2]? = some (Θ.2.1 2, .array .int))).1 n (fun i => va_rf (some (Θ.2.2.1 g' i)))) rfl (fun q => by cases q) (by rw [arrV_size]; exact hin) (by rw [nI_clamp (by omega), arrV_read _ _ hj]; rfl) rfl rfl hd ?_
  exact k H locs ls hP hS hl
theorem j_alen (X : jxOk Γ Θ l cc nL own ret rm) {g r n : Nat} (hd : decode cc pc = .ok (.arraylength, 1)) (hk : jxk g = .inr (.inl (0, n))) (hp : Θ.2.2.2 g r) (hq : pc + 1 = q)
    (k : jxW Γ Θ Φ q L (.inl (nI n) :: st) σ) : jxW Γ Θ Φ pc L (.inr (g, r) :: st) σ := by
  subst hq
  obtain ⟨p, l', e, R, s, m, args, below, meth, c, A⟩ := Γ
  obtain ⟨hx, hb, hml, hown, hts, hret, hlk, hS0, hI, hA1, hA2, hR0, hl0⟩ := X
  intro H locs ls hP hS hl
  exact va_alen (ws := [(Θ.2.2.1 g r, jxcon Θ (jxk g) (σ g r))]) (tys := jxtys Θ.2.1) (cA := Θ.2.1 0) (x := (n, .inl (σ g r))) hx hb hS0.1 (hP.one hp) 0 0 (by rw [hk]; rfl) rfl rfl hd (k H locs ls hP hS hl)
theorem j_iret (X : jxOk Γ Θ l cc nL own (some .int) rm) {v : Int32} (hd : decode cc pc = .ok (.ireturn, 1)) (h : Φ (some (.inl v)) σ) : jxW Γ Θ Φ pc L [.inl v] σ := by
  obtain ⟨p, l', e, R, s, m, args, below, meth, c, A⟩ := Γ
  obtain ⟨hx, hb, hml, hown, hts, hret, hlk, hS0, hI, hA1, hA2, hR0, hl0⟩ := X
  intro H locs ls hP hS hl
  exact W.iret (v := v) hx hb hret (fun t ht hW => ⟨⟨some (.inl v), σ, rfl, h, by rw [ht]; exact hP⟩, hS.F ht⟩) hS.2.2 hd hlk
theorem j_zret (X : jxOk Γ Θ l cc nL own (some .boolean) rm) {v : Int32} (hd : decode cc pc = .ok (.ireturn, 1)) (hn : narrow .boolean (.int v) = .int v) (h : Φ (some (.inl v)) σ) : jxW Γ Θ Φ pc L [.inl v] σ := by
  obtain ⟨p, l', e, R, s, m, args, below, meth, c, A⟩ := Γ
  obtain ⟨hx, hb, hml, hown, hts, hret, hlk, hS0, hI, hA1, hA2, hR0, hl0⟩ := X
  intro H locs ls hP hS hl
  exact W.zret (v := v) hx hb hret hn (fun t ht hW => ⟨⟨some (.inl v), σ, rfl, h, by rw [ht]; exact hP⟩, hS.F ht⟩) hS.2.2 hd hlk
theorem j_vret (X : jxOk Γ Θ l cc nL own none rm) (hd : decode cc pc = .ok (.return_, 1)) (h : Φ none σ) : jxW Γ Θ Φ pc L [] σ := by
  obtain ⟨p, l', e, R, s, m, args, below, meth, c, A⟩ := Γ
  obtain ⟨hx, hb, hml, hown, hts, hret, hlk, hS0, hI, hA1, hA2, hR0, hl0⟩ := X
  intro H locs ls hP hS hl
  exact W.vret hx hb hret (fun t ht hW => ⟨⟨none, σ, rfl, h, by rw [ht]; exact hP⟩, hS.F ht⟩) hS.2.2 hd hlk
theorem jxW.cast {L' : List (Option jxV)} {st' : List jxV} {σ' : jxM} (hL : L = L') (hs : st = st') (hσ : σ = σ') (k : jxW Γ Θ Φ pc L' st' σ') : jxW Γ Θ Φ pc L st σ := by
  subst hL; subst hs; subst hσ
  exact k
end JR
end
section
/-! Calls over jxW: of methods that make nothing and have a contract jxMet. -/
section JC
variable {p : Program} {l : Launch} {e : Env} {R : Room} {s : State} {m : MethodId} {args : Array Value} {below : List Frame} {meth : Method} {c : Code} {A : Nat → Prop}
variable {Θ : jxT} {Φ Φ' : jxF} {cc : ByteArray} {nL : Nat} {own : String} {ret : Option FieldType} {rm : Room} {pc q : Nat} {L : List (Option jxV)} {st rest : List jxV} {σ : jxM}
theorem jxA_in (hA1 : ∀ g r, Θ.2.2.2 g r → A (Θ.2.2.1 g r)) (hA2 : ∀ q, s.heap.size ≤ q → A q) {H : Heap} {locs : List Loc} (hS : va_S A s.heap H locs) : ∀ q, jxA Θ H.size q → A q := by
  intro q h
  rcases h with ⟨g, r, h1, rfl⟩ | h
  · exact hA1 g r h1
  · exact hA2 q (Nat.le_trans hS.1 h)
theorem j_run {a : Array Value} (hA1 : ∀ g r, Θ.2.2.2 g r → A (Θ.2.2.1 g r)) (hA2 : ∀ q, s.heap.size ≤ q → A q)
    (hrun : ∀ (H : Heap) (locs : List Loc) (ls : Array Slot), jxP Θ σ H → va_S A s.heap H locs → jxL Θ.2.2.1 ls L → va_Run p l e R s m args below meth c H locs 0 0 0 0 (F0 m pc ls (st.map (jxe Θ.2.2.1))) (rest.map (jxe Θ.2.2.1)) (jxQ Θ Φ' (jxA Θ H.size) a) (jxA Θ H.size))
    (kk : ∀ r σ', Φ' r σ' → jxW (p, l, e, R, s, m, args, below, meth, c, A) Θ Φ (pc + 3) L (r.toList ++ rest) σ') : jxW (p, l, e, R, s, m, args, below, meth, c, A) Θ Φ pc L st σ := by
  intro H locs ls hP hS hl T hT X0
  have hf := jxA_in hA1 hA2 hS
  obtain ⟨v, st₀, t, T', L', h0, X', hL, e1, e2, ⟨⟨r, σ', hv, hΦ, hP'⟩, hz, hk⟩, stp⟩ := hrun H locs ls hP hS hl T hT X0
  cases hv
  rw [h0] at hz hk
  have hS' : va_S A s.heap T'.heap (locs ++ L') := ⟨Nat.le_trans hS.1 (by rw [e1]; exact hz), fun q h1 h2 => by rw [e1, hk q (Nat.lt_of_lt_of_le h1 hS.1) (fun z => h2 (hf q z))]; exact hS.2.1 q h1 h2, fun q hq => by
      rcases List.mem_append.mp hq with h | h
      · exact hS.2.2 q h
      · exact hf _ (hL q h)⟩
  have kk' := kk r σ' hΦ T'.heap (locs ++ L') ls (by rw [e1]; exact hP') hS' hl T' rfl X'
  cases r with
  | none =>
    obtain ⟨t2, a1, b1⟩ := kk'
    exact ⟨t2, stp t2 a1, b1⟩
  | some v =>
    obtain ⟨t2, a1, b1⟩ := kk'
    exact ⟨t2, stp t2 a1, b1⟩
theorem jxcats (ad : Nat → Nat → Nat) (l : List jxV) : ((l.map (jxe ad)).map fun v => v.category).sum = l.length := by
  induction l with
  | nil => rfl
  | cons a l ih =>
    show (jxe ad a).category + ((l.map (jxe ad)).map fun v => v.category).sum = l.length + 1
    rw [jxe_cat, ih]; omega
theorem jxrest (ad : Nat → Nat → Nat) {l : List jxV} (h : l.length ≤ 8) : ((l.map (jxe ad)).map fun v => v.category).sum ≤ 8 := by rw [jxcats]; exact h
theorem jxrecv {H : Heap} {g r ci N : Nat} {fl : List (Option Nat)} {C : String} {T : u_T} (hS0 : jxS Θ s) (hP : jxP Θ σ H) (hk : jxk g = .inl (ci, fl)) (hc : jxCl[ci]? = some (C, T, N)) (hp : Θ.2.2.2 g r) : ∃ cellB : Cell, H[Θ.2.2.1 g r]? = some cellB ∧ cellB.vm.isStatics = false ∧ s.vm.findClass C = some cellB.cls := by
  have h0 := hP g r hp
  rw [hk] at h0
  obtain ⟨r0, h1, cell, q1, q2, q3, q4⟩ := h0
  have hr : r0 = (C, T, N) := Option.some.inj (h1.symm.trans hc)
  subst hr
  obtain ⟨-, hfc, -⟩ := hS0.1.1 ci _ hc
  exact ⟨cell, q1, by rw [q3]; rfl, by rw [q2]; exact hfc⟩
end JC
theorem jW_goodS {own : String} {idx : Nat} {y : MethodName} {b : ByteArray} {n : Nat} {ret : Option FieldType} (h1 : Cond.methodLink own idx y ∈ jW) (h2 : Cond.static y ∈ jW) (h3 : Cond.initialized y.cls ∈ jW) (h4 : Cond.code y b n ret ∈ jW) : GoodIn jW (va_wsS own idx y (Cond.code y b n ret :: jW)) := by
  have key : ∀ w ∈ va_wsS own idx y (Cond.code y b n ret :: jW), w ∈ jW := by
    intro w hw
    simp only [va_wsS, List.mem_append, List.mem_cons, List.not_mem_nil, or_false] at hw
    rcases hw with (rfl | rfl | rfl) | rfl | h
    · exact h1
    · exact h2
    · exact h3
    · exact h4
    · exact h
  exact fun w hw => ⟨key w hw, jW_good w (key w hw)⟩
theorem jW_goodV {own C : String} {idx : Nat} {y : MethodName} {b : ByteArray} {n : Nat} {ret : Option FieldType} (h1 : Cond.methodLink own idx y ∈ jW) (h2 : Cond.instanceMethod y ∈ jW) (h3 : Cond.selects C y y ∈ jW) (h5 : Cond.initialized C ∈ jW) (h4 : Cond.code y b n ret ∈ jW) : GoodIn jW (wsV own idx C y (Cond.code y b n ret :: jW)) := by
  have key : ∀ w ∈ wsV own idx C y (Cond.code y b n ret :: jW), w ∈ jW := by
    intro w hw
    simp only [wsV, List.mem_append, List.mem_cons, List.not_mem_nil, or_false] at hw
    rcases hw with (rfl | rfl | rfl | rfl) | rfl | h
    · exact h1
    · exact h2
    · exact h3
    · exact h5
    · exact h4
    · exact h
  exact fun w hw => ⟨key w hw, jW_good w (key w hw)⟩
theorem jW_goodN {y : MethodName} {b : ByteArray} {n : Nat} {ret : Option FieldType} (h4 : Cond.code y b n ret ∈ jW) : GoodIn jW (Cond.code y b n ret :: jW) := by
  have key : ∀ w ∈ Cond.code y b n ret :: jW, w ∈ jW := by
    intro w hw
    rcases List.mem_cons.mp hw with rfl | h
    · exact h4
    · exact h
  exact fun w hw => ⟨key w hw, jW_good w (key w hw)⟩
section JD
variable {Γ : jxG} {Θ : jxT} {Φ Φ' : jxF} {l : Launch} {cc : ByteArray} {nL : Nat} {own : String} {ret : Option FieldType} {rm : Room} {pc q : Nat} {L : List (Option jxV)} {st as rest : List jxV} {σ : jxM}
variable {index maxL n : Nat} {y : MethodName} {bytes : ByteArray} {ret' : Option FieldType} {rm' : Room}
/-- a static method of a class of ours or of the JDK -/
theorem j_callS (X : jxOk Γ Θ l cc nL own ret rm) (hd : decode cc pc = .ok (.invokestatic index, 3)) (hM : jxMet l y bytes maxL ret' rm' Θ as σ Φ') (w1 : Cond.methodLink own index y ∈ jW) (w2 : Cond.static y ∈ jW) (w3 : Cond.initialized y.cls ∈ jW) (w4 : Cond.code y bytes maxL ret' ∈ jW)
    (hy : y.cls ≠ "java/lang/invoke/MethodHandle" ∧ y.cls ≠ "java/lang/invoke/VarHandle" ∧ (parseMethodDescriptor y.desc).map (fun d => d.parameters.length) = some n) (hr0 : rm'.cells = 0 ∧ rm'.slots = 0) (hR : rm'.frames + 1 ≤ rm.frames ∧ 8 + (maxL + 11) + rm'.locals ≤ rm.locals)
    (hst : st = as.reverse ++ rest) (hn : as.length = n) (hr : rest.length ≤ 8) (hL : L.length = nL) (hq : pc + 3 = q) (kk : ∀ r σ', Φ' r σ' → jxW Γ Θ Φ q L (r.toList ++ rest) σ') : jxW Γ Θ Φ pc L st σ := by
  subst hq; subst hst
  obtain ⟨p, l', e, R, s, m, args, below, meth, c, A⟩ := Γ
  obtain ⟨hx, hb, hml, hown, hts, hret, hlk, hS0, hI, hA1, hA2, hR0, hl0⟩ := X
  subst hR0; subst hl0
  refine j_run (a := (as.map (jxe Θ.2.2.1)).toArray) hA1 hA2 (fun H locs ls hP hS hl => ?_) kk
  exact va_runS (As := as.map (jxe Θ.2.2.1)) ⟨hx, hb, hml, hown, hts⟩ (hM H.size) (va_cwS n hts (jW_goodS w1 w2 w3 w4) rfl hr0.1 hr0.2 hy hR) ⟨jxPre.blind, fun U hU hW => ⟨rfl, by rw [hU], by rw [hU]; exact hP, hS0.warm hW⟩⟩ rfl (by rw [List.length_map]; exact hn) (hl.1.trans hL) (by simp [F0]) (lv_room (jxrest _ hr)) hd ⟨Nat.zero_le _, Nat.zero_le _⟩
/-- a static method of a nest mate, private -/
theorem j_callSN {host : String} (X : jxOk Γ Θ l cc nL own ret rm) (hd : decode cc pc = .ok (.invokestatic index, 3)) (hM : jxMet l y bytes maxL ret' rm' Θ as σ Φ') (w4 : Cond.code y bytes maxL ret' ∈ jW) (hnest : Cond.methodLinkNest own index y host ∈ jxnst) (hini : Cond.initialized y.cls ∈ jW) (hsta : Cond.static y ∈ jW)
    (hy : y.cls ≠ "java/lang/invoke/MethodHandle" ∧ y.cls ≠ "java/lang/invoke/VarHandle" ∧ (parseMethodDescriptor y.desc).map (fun d => d.parameters.length) = some n) (hr0 : rm'.cells = 0 ∧ rm'.slots = 0) (hR : rm'.frames + 1 ≤ rm.frames ∧ 8 + (maxL + 11) + rm'.locals ≤ rm.locals)
    (hst : st = as.reverse ++ rest) (hn : as.length = n) (hr : rest.length ≤ 8) (hL : L.length = nL) (hq : pc + 3 = q) (kk : ∀ r σ', Φ' r σ' → jxW Γ Θ Φ q L (r.toList ++ rest) σ') : jxW Γ Θ Φ pc L st σ := by
  subst hq; subst hst
  obtain ⟨p, l', e, R, s, m, args, below, meth, c, A⟩ := Γ
  obtain ⟨hx, hb, hml, hown, hts, hret, hlk, hS0, hI, hA1, hA2, hR0, hl0⟩ := X
  subst hR0; subst hl0
  refine j_run (a := (as.map (jxe Θ.2.2.1)).toArray) hA1 hA2 (fun H locs ls hP hS hl => ?_) kk
  exact va_runSN (As := as.map (jxe Θ.2.2.1)) ⟨hx, hb, hml, hown, hts⟩ (hM H.size) ⟨va_cnB n hts (jW_goodN w4) rfl hr0.1 hr0.2 (hS0.2 _ hnest) (hts _ hini) hy hR, hts _ hsta, trivial⟩ ⟨jxPre.blind, fun U hU hW => ⟨rfl, by rw [hU], by rw [hU]; exact hP, hS0.warm hW⟩⟩ rfl (by rw [List.length_map]; exact hn) (hl.1.trans hL) (by simp [F0]) (lv_room (jxrest _ hr)) hd ⟨Nat.zero_le _, Nat.zero_le _⟩
/-- a method on an object -/
theorem j_callV {g r ci N : Nat} {fl : List (Option Nat)} {C : String} {T : u_T} (X : jxOk Γ Θ l cc nL own ret rm) (hd : decode cc pc = .ok (.invokevirtual index, 3)) (hM : jxMet l y bytes maxL ret' rm' Θ (.inr (g, r) :: as) σ Φ') (hk : jxk g = .inl (ci, fl)) (hc : jxCl[ci]? = some (C, T, N)) (hp : Θ.2.2.2 g r) (w1 : Cond.methodLink own index y ∈ jW) (w2 : Cond.instanceMethod y ∈ jW) (w3 : Cond.selects C y y ∈ jW) (w5 : Cond.initialized C ∈ jW) (w4 : Cond.code y bytes maxL ret' ∈ jW)
    (hy : y.cls = C ∧ y.cls ≠ "java/lang/invoke/MethodHandle" ∧ y.cls ≠ "java/lang/invoke/VarHandle" ∧ (parseMethodDescriptor y.desc).map (fun d => d.parameters.length) = some n) (hr0 : rm'.cells = 0 ∧ rm'.slots = 0) (hR : rm'.frames + 1 ≤ rm.frames ∧ 8 + (maxL + 11) + rm'.locals ≤ rm.locals)
    (hst : st = as.reverse ++ .inr (g, r) :: rest) (hn : as.length = n) (hr : rest.length ≤ 8) (hL : L.length = nL) (hq : pc + 3 = q) (kk : ∀ r σ', Φ' r σ' → jxW Γ Θ Φ q L (r.toList ++ rest) σ') : jxW Γ Θ Φ pc L st σ := by
  subst hq; subst hst
  obtain ⟨p, l', e, R, s, m, args, below, meth, c, A⟩ := Γ
  obtain ⟨hx, hb, hml, hown, hts, hret, hlk, hS0, hI, hA1, hA2, hR0, hl0⟩ := X
  subst hR0; subst hl0
  refine j_run (a := (Value.ref (Θ.2.2.1 g r) :: as.map (jxe Θ.2.2.1)).toArray) hA1 hA2 (fun H locs ls hP hS hl => ?_) kk
  exact va_runV (As := as.map (jxe Θ.2.2.1)) (C := C) ⟨hx, hb, hml, hown, hts⟩ (hM H.size) (cwV n hts (jW_goodV w1 w2 w3 w5 w4) rfl hr0.1 hr0.2 hy hR) ⟨jxPre.blind, jxrecv hS0 hP hk hc hp, fun U hU hW => ⟨rfl, by rw [hU], by rw [hU]; exact hP, hS0.warm hW⟩⟩ rfl (by rw [List.length_map]; exact hn) (hl.1.trans hL) (by simp [F0, jxe]) (lv_room (jxrest _ hr)) hd ⟨Nat.zero_le _, Nat.zero_le _⟩
/-- a private method of a nest mate on an object -/
theorem j_callVN {host : String} {g r ci N : Nat} {fl : List (Option Nat)} {C : String} {T : u_T} (X : jxOk Γ Θ l cc nL own ret rm) (hd : decode cc pc = .ok (.invokevirtual index, 3)) (hM : jxMet l y bytes maxL ret' rm' Θ (.inr (g, r) :: as) σ Φ') (hk : jxk g = .inl (ci, fl)) (hc : jxCl[ci]? = some (C, T, N)) (hp : Θ.2.2.2 g r) (w4 : Cond.code y bytes maxL ret' ∈ jW) (hnest : Cond.methodLinkNest own index y host ∈ jxnst) (hini : Cond.initialized y.cls ∈ jW) (hins : Cond.instanceMethod y ∈ jW) (hsel : Cond.selects C y y ∈ jW)
    (hy : y.cls ≠ "java/lang/invoke/MethodHandle" ∧ y.cls ≠ "java/lang/invoke/VarHandle" ∧ (parseMethodDescriptor y.desc).map (fun d => d.parameters.length) = some n) (hr0 : rm'.cells = 0 ∧ rm'.slots = 0) (hR : rm'.frames + 1 ≤ rm.frames ∧ 8 + (maxL + 11) + rm'.locals ≤ rm.locals)
    (hst : st = as.reverse ++ .inr (g, r) :: rest) (hn : as.length = n) (hr : rest.length ≤ 8) (hL : L.length = nL) (hq : pc + 3 = q) (kk : ∀ r σ', Φ' r σ' → jxW Γ Θ Φ q L (r.toList ++ rest) σ') : jxW Γ Θ Φ pc L st σ := by
  subst hq; subst hst
  obtain ⟨p, l', e, R, s, m, args, below, meth, c, A⟩ := Γ
  obtain ⟨hx, hb, hml, hown, hts, hret, hlk, hS0, hI, hA1, hA2, hR0, hl0⟩ := X
  subst hR0; subst hl0
  refine j_run (a := (Value.ref (Θ.2.2.1 g r) :: as.map (jxe Θ.2.2.1)).toArray) hA1 hA2 (fun H locs ls hP hS hl => ?_) kk
  exact va_runVN (As := as.map (jxe Θ.2.2.1)) (C := C) ⟨hx, hb, hml, hown, hts⟩ (hM H.size) ⟨va_cnB n hts (jW_goodN w4) rfl hr0.1 hr0.2 (hS0.2 _ hnest) (hts _ hini) hy hR, hts _ hins, hts _ hsel⟩ ⟨jxPre.blind, jxrecv hS0 hP hk hc hp, fun U hU hW => ⟨rfl, by rw [hU], by rw [hU]; exact hP, hS0.warm hW⟩⟩ rfl (by rw [List.length_map]; exact hn) (hl.1.trans hL) (by simp [F0, jxe]) (lv_room (jxrest _ hr)) hd ⟨Nat.zero_le _, Nat.zero_le _⟩
end JD
end
section
/-! Bits: the family bt of the laws to paste, then sets of transactions. -/
def bt (x : Int32) (i : Nat) : Bool := x.toBitVec.getLsbD i
theorem b_ext {x y : Int32} (h : ∀ i, i < 32 → bt x i = bt y i) : x = y := Int32.toBitVec_inj.mp (BitVec.eq_of_getLsbD_eq (fun i hi => h i hi))
theorem b_or (x y : Int32) (i : Nat) : bt (x ||| y) i = (bt x i || bt y i) := by unfold bt; rw [Int32.toBitVec_or, BitVec.getLsbD_or]
theorem b_and (x y : Int32) (i : Nat) : bt (x &&& y) i = (bt x i && bt y i) := by unfold bt; rw [Int32.toBitVec_and, BitVec.getLsbD_and]
theorem b_xor (x y : Int32) (i : Nat) : bt (x ^^^ y) i = (bt x i ^^ bt y i) := by unfold bt; rw [Int32.toBitVec_xor, BitVec.getLsbD_xor]
theorem b_big {x : Int32} {i : Nat} (h : 32 ≤ i) : bt x i = false := BitVec.getLsbD_of_ge _ _ h
theorem b_255 (i : Nat) : bt 255 i = decide (i < 8) := by
  rcases Nat.lt_or_ge i 32 with h | h
  · exact (by decide +kernel : ∀ i, i < 32 → bt 255 i = decide (i < 8)) i h
  · rw [b_big h, decide_eq_false (by omega)]
theorem b_65535 (i : Nat) : bt 65535 i = decide (i < 16) := by
  rcases Nat.lt_or_ge i 32 with h | h
  · exact (by decide +kernel : ∀ i, i < 32 → bt 65535 i = decide (i < 16)) i h
  · rw [b_big h, decide_eq_false (by omega)]
theorem b_m1 : ∀ i, i < 32 → bt (-1) i = true := by decide +kernel
theorem b_0 (i : Nat) : bt 0 i = false := BitVec.getLsbD_zero
theorem s_l : ∀ n, n < 32 → ((nI n &&& 31).toBitVec.smod 32).toNat = n := by decide +kernel
theorem s_u : ∀ n, n < 32 → (((nI n).toUInt32 &&& Int32.toUInt32 31).toBitVec % 32).toNat = n := by decide +kernel
theorem b_shl (n : Nat) (hn : n < 32) (x : Int32) {i : Nat} (hi : i < 32) : bt (x <<< (nI n &&& 31)) i = (decide (n ≤ i) && bt x (i - n)) := by
  unfold bt
  rw [Int32.toBitVec_shiftLeft]
  show (x.toBitVec <<< ((nI n &&& 31).toBitVec.smod 32).toNat).getLsbD i = _
  rw [s_l n hn, BitVec.getLsbD_shiftLeft]
  rcases Nat.lt_or_ge i n with h | h
  · simp [h, Nat.not_le.mpr h]
  · simp [hi, h, Nat.not_lt.mpr h]
/-! sets of transactions: the Int32 of a set, bit by bit -/
def jbN (S : Nat → Bool) : Nat → Nat
  | 0 => 0
  | k + 1 => jbN S k ||| (if S k then 2 ^ k else 0)
theorem jbN_test (S : Nat → Bool) (k i : Nat) : (jbN S k).testBit i = (decide (i < k) && S i) := by
  induction k with
  | zero => simp [jbN]
  | succ k ih =>
    rw [jbN, Nat.testBit_or, ih]
    by_cases hS : S k
    · rw [if_pos hS, Nat.testBit_two_pow]
      by_cases h : k = i
      · subst h; simp [hS]
      · have e : decide (i < k + 1) = decide (i < k) := by
          by_cases h2 : i < k
          · simp [h2, Nat.lt_succ_of_lt h2]
          · have : ¬ i < k + 1 := by omega
            simp [h2, this]
        simp [h, e]
    · rw [if_neg hS, Nat.zero_testBit, Bool.or_false]
      by_cases h : i = k
      · subst h; simp [hS]
      · have e : decide (i < k + 1) = decide (i < k) := by
          by_cases h2 : i < k
          · simp [h2, Nat.lt_succ_of_lt h2]
          · have : ¬ i < k + 1 := by omega
            simp [h2, this]
        rw [e]
theorem jbN_lt (S : Nat → Bool) (k : Nat) : jbN S k < 2 ^ k := by
  induction k with
  | zero => simp [jbN]
  | succ k ih =>
    rw [jbN]
    refine Nat.or_lt_two_pow (Nat.lt_of_lt_of_le ih (Nat.pow_le_pow_right (by omega) (by omega))) ?_
    by_cases hS : S k
    · rw [if_pos hS]; exact Nat.pow_lt_pow_right (by omega) (by omega)
    · rw [if_neg hS]; exact Nat.two_pow_pos _
def bI (S : Nat → Bool) : Int32 := nI (jbN S 8)
theorem bt_nI (n i : Nat) : bt (nI n) i = (decide (i < 32) && n.testBit i) := by
  show (BitVec.ofNat 32 n).getLsbD i = _
  rw [BitVec.getLsbD_ofNat]
theorem bt_bI (S : Nat → Bool) (i : Nat) : bt (bI S) i = (decide (i < 8) && S i) := by
  unfold bI
  rw [bt_nI, jbN_test]
  by_cases h : i < 8
  · simp [h, show i < 32 by omega]
  · simp [h]
theorem bI_ext {S T : Nat → Bool} (h : ∀ i, i < 8 → S i = T i) : bI S = bI T := by
  refine b_ext (fun i _ => ?_)
  rw [bt_bI, bt_bI]
  by_cases hi : i < 8
  · rw [h i hi]
  · simp [hi]
theorem bI_inj {S T : Nat → Bool} (h : bI S = bI T) : ∀ i, i < 8 → S i = T i := by
  intro i hi
  have := congrArg (fun x => bt x i) h
  simp only [bt_bI, hi, decide_true, Bool.true_and] at this
  exact this
theorem bI_or (S T : Nat → Bool) : bI S ||| bI T = bI (fun i => S i || T i) := by
  refine b_ext (fun i _ => ?_)
  rw [b_or, bt_bI, bt_bI, bt_bI]
  by_cases hi : i < 8 <;> simp [hi]
theorem bI_and (S T : Nat → Bool) : bI S &&& bI T = bI (fun i => S i && T i) := by
  refine b_ext (fun i _ => ?_)
  rw [b_and, bt_bI, bt_bI, bt_bI]
  by_cases hi : i < 8 <;> simp [hi]
theorem bI_andn (S T : Nat → Bool) : bI S &&& (bI T ^^^ (-1)) = bI (fun i => S i && !(T i)) := by
  refine b_ext (fun i h => ?_)
  rw [b_and, b_xor, bt_bI, bt_bI, bt_bI, b_m1 i h]
  by_cases hi : i < 8 <;> simp [hi]
theorem bI_false : bI (fun _ => false) = 0 := by
  refine b_ext (fun i _ => ?_)
  rw [bt_bI, b_0]; simp
theorem bI_zero (S : Nat → Bool) : bI S = 0 ↔ ∀ i, i < 8 → S i = false := by
  rw [← bI_false]
  exact ⟨fun h i hi => bI_inj h i hi, fun h => bI_ext h⟩
theorem bI_one {t : Nat} (ht : t < 8) : (1 : Int32) <<< (nI t &&& 31) = bI (fun i => decide (i = t)) := by
  refine b_ext (fun i h => ?_)
  rw [b_shl t (by omega) 1 h, bt_bI]
  have h1 : bt 1 (i - t) = decide (i - t = 0) := (by decide +kernel : ∀ k, k < 32 → bt 1 k = decide (k = 0)) (i - t) (by omega)
  rw [h1]
  by_cases e : i = t
  · subst e; simp [ht]
  · by_cases h2 : t ≤ i
    · have : ¬ i - t = 0 := by omega
      simp [e, this]
    · simp [e, h2]
end
section
/-! Answers and fields in words of numbers: booleans, versions or none. -/
def jB (b : Bool) : Int32 := if b then nI 1 else nI 0
def vI (o : Option Nat) : Int32 := match o with
  | none => -1
  | some v => nI v
theorem jB_narrow (b : Bool) : narrow .boolean (.int (jB b)) = .int (jB b) := by cases b <;> decide +kernel
theorem jB_fits (b : Bool) : fits .boolean (.int (jB b)) = true := by cases b <;> decide +kernel
theorem jB_eq0 (b : Bool) : jB b = 0 ↔ b = false := by cases b <;> decide +kernel
theorem jB_t : jB true = nI 1 := rfl
theorem jB_f : jB false = nI 0 := rfl
theorem jB_of {b : Bool} (h : b = true) : nI 1 = jB b := by rw [h]; rfl
theorem jB_nof {b : Bool} (h : ¬ b = true) : nI 0 = jB b := by rw [Bool.eq_false_iff.mpr h]; rfl
theorem vI_m1 (o : Option Nat) (h : ∀ v, o = some v → v < 2 ^ 31) : vI o = -1 ↔ o = none := by
  cases o with
  | none => simp [vI]
  | some v =>
    have hv := h v rfl
    constructor
    · intro q
      have q : nI v = -1 := q
      have := congrArg Int32.toInt q
      rw [nI_toInt hv] at this
      have e : (-1 : Int32).toInt = -1 := by decide +kernel
      rw [e] at this
      omega
    · intro q; cases q
theorem nI_ne_m1 {v : Nat} (hv : v < 2 ^ 31) : nI v ≠ -1 := fun q => by
  have := (vI_m1 (some v) (fun w hw => by cases hw; exact hv)).mp q
  cases this
section JBR
variable {Γ : jxG} {Θ : jxT} {Φ : jxF} {l : Launch} {cc : ByteArray} {nL : Nat} {own : String} {ret : Option FieldType} {rm : Room} {pc q : Nat} {L : List (Option jxV)} {st : List jxV} {σ : jxM}
theorem j_bif_eq (X : jxOk Γ Θ l cc nL own ret rm) {b : Bool} {off : Int} {tgt : Nat} (hd : decode cc pc = .ok (.ifCond .eq off, 3)) (ht : (pc : Int) + off = (tgt : Int)) (hq : pc + 3 = q)
    (kt : b = false → jxW Γ Θ Φ tgt L st σ) (kf : b = true → jxW Γ Θ Φ q L st σ) : jxW Γ Θ Φ pc L (.inl (jB b) :: st) σ :=
  j_if_eq X hd ht hq (fun h => kt ((jB_eq0 b).mp h)) (fun h => kf (by cases b with | true => rfl | false => exact absurd ((jB_eq0 false).mpr rfl) h))
theorem j_bif_ne (X : jxOk Γ Θ l cc nL own ret rm) {b : Bool} {off : Int} {tgt : Nat} (hd : decode cc pc = .ok (.ifCond .ne off, 3)) (ht : (pc : Int) + off = (tgt : Int)) (hq : pc + 3 = q)
    (kt : b = true → jxW Γ Θ Φ tgt L st σ) (kf : b = false → jxW Γ Θ Φ q L st σ) : jxW Γ Θ Φ pc L (.inl (jB b) :: st) σ :=
  j_if_ne X hd ht hq (fun h => kt (by cases b with | true => rfl | false => exact absurd ((jB_eq0 false).mpr rfl) h)) (fun h => kf ((jB_eq0 b).mp h))
end JBR
/-- the room of a method with calls d deep -/
def jrm (d : Nat) : Room := { frames := d, cells := 0, slots := 0, locals := 40 * d }
/-- an answer, and the memory as it was -/
def jan (v : Int32) (σ : jxM) : jxF := fun r σ' => r = some (.inl v) ∧ σ = σ'
/-- no answer, and the memory as it was -/
def jvo (σ : jxM) : jxF := fun r σ' => r = none ∧ σ = σ'
/-- a row filled up to n -/
def jfl (σ : jxM) (g r n : Nat) (x : Int32) : jxM := fun g' r' j => if g' = g ∧ r' = r ∧ j < n then x else σ g' r' j
theorem jfl_0 (σ : jxM) (g r : Nat) (x : Int32) : jfl σ g r 0 x = σ := by
  funext a b c
  simp [jfl]
theorem jfl_succ (σ : jxM) (g r n : Nat) (x : Int32) : jxs (jfl σ g r n x) g r n x = jfl σ g r (n + 1) x := by
  funext a b c
  rw [jxs_at]
  unfold jfl
  by_cases h : a = g ∧ b = r
  · obtain ⟨rfl, rfl⟩ := h
    by_cases e : c = n
    · subst e; simp
    · by_cases e2 : c < n
      · simp [e, e2, Nat.lt_succ_of_lt e2]
      · have : ¬ c < n + 1 := by omega
        simp [e, e2, this]
  · have h1 : ¬ (a = g ∧ b = r ∧ c = n) := fun q => h ⟨q.1, q.2.1⟩
    have h2 : ¬ (a = g ∧ b = r ∧ c < n) := fun q => h ⟨q.1, q.2.1⟩
    have h3 : ¬ (a = g ∧ b = r ∧ c < n + 1) := fun q => h ⟨q.1, q.2.1⟩
    rw [if_neg h1, if_neg h2, if_neg h3]
theorem j_inc1 (t : Nat) : nI t + Int32.ofInt 1 = nI (t + 1) := by rw [nI_succ]; rfl
theorem j_dec1 (t : Nat) : nI (t + 1) + Int32.ofInt (-1) = nI t := by rw [← pk_m1 t]; rfl
theorem bI_has {S : Nat → Bool} {t : Nat} (ht : t < 8) : bI S &&& bI (fun i => decide (i = t)) = 0 ↔ S t = false := by
  rw [bI_and, bI_zero]
  constructor
  · intro h; have := h t ht; simpa using this
  · intro h i hi
    by_cases e : i = t
    · subst e; simp [h]
    · simp [e]
/-- x is one of 0 .. n - 1 -/
def jin (x : Int32) (n : Nat) : Bool := decide (0 ≤ x.toInt ∧ x.toInt < n)
theorem jin_nI {k n : Nat} (h : k < 2 ^ 31) : jin (nI k) n = decide (k < n) := by
  unfold jin
  rw [nI_toInt h]
  by_cases e : k < n
  · simp [e]
  · simp [e]
theorem jin_of {x : Int32} {n : Nat} (h : jin x n = true) (hn : n < 2 ^ 31) : ∃ k, k < n ∧ x = nI k := by
  unfold jin at h
  rw [decide_eq_true_eq] at h
  exact vp_in_of (vp_in_iff.mpr h) hn
theorem jin_neg {x : Int32} {n : Nat} (h : x < 0) : jin x n = false := by
  unfold jin
  rw [decide_eq_false_iff_not]
  have h1 := Int32.lt_iff_toInt_lt.mp h
  have e : (0 : Int32).toInt = 0 := by decide +kernel
  rw [e] at h1
  omega
theorem jin_big {x : Int32} {n : Nat} (hn : n < 2 ^ 31) (h : nI n ≤ x) : jin x n = false := by
  unfold jin
  rw [decide_eq_false_iff_not]
  have h1 := Int32.le_iff_toInt_le.mp h
  rw [nI_toInt hn] at h1
  omega
theorem jin_yes {x : Int32} {n : Nat} (hn : n < 2 ^ 31) (h0 : ¬ x < 0) (h : ¬ nI n ≤ x) : jin x n = true := by
  unfold jin
  rw [decide_eq_true_eq]
  have e : (0 : Int32).toInt = 0 := by decide +kernel
  have h1 : ¬ x.toInt < (0 : Int32).toInt := fun q => h0 (Int32.lt_iff_toInt_lt.mpr q)
  have h2 : ¬ (nI n).toInt ≤ x.toInt := fun q => h (Int32.le_iff_toInt_le.mpr q)
  rw [e] at h1
  rw [nI_toInt hn] at h2
  omega
section JLD
variable {Γ : jxG} {Θ : jxT} {Φ : jxF} {l : Launch} {cc : ByteArray} {nL : Nat} {own : String} {ret : Option FieldType} {rm : Room} {pc q : Nat} {L : List (Option jxV)} {st : List jxV} {σ : jxM}
theorem j_ldcw (X : jxOk Γ Θ l cc nL own ret rm) {index : Nat} {v : Int32} (hd : decode cc pc = .ok (.ldc_w index, 3)) (hw : Cond.constant own index v ∈ jW) (hq : pc + 3 = q)
    (k : jxW Γ Θ Φ q L (.inl v :: st) σ) : jxW Γ Θ Φ pc L st σ := by
  subst hq
  obtain ⟨p, l', e, R, s, m, args, below, meth, c, A⟩ := Γ
  obtain ⟨hx, hb, hml, hown, hts, hret, hlk, hS0, hI, hA1, hA2, hR0, hl0⟩ := X
  intro H locs ls hP hS hl
  exact lv_ldcw hx hb hown (hts _ hw) hd (k H locs ls hP hS hl)
end JLD
end
section
/-! Cycles, purely: walks by layers, the least closed walk, and that a least one meets nobody twice. -/
def jE8 (f : Nat → Bool) : Bool := (List.range 8).any f
theorem jE8_iff {f : Nat → Bool} : jE8 f = true ↔ ∃ u, u < 8 ∧ f u = true := by simp [jE8]
theorem jE8_ext {f h : Nat → Bool} (e : ∀ u, u < 8 → f u = h u) : jE8 f = jE8 h := by
  rw [Bool.eq_iff_iff, jE8_iff, jE8_iff]
  exact ⟨fun ⟨u, h1, h2⟩ => ⟨u, h1, by rw [← e u h1]; exact h2⟩, fun ⟨u, h1, h2⟩ => ⟨u, h1, by rw [e u h1]; exact h2⟩⟩
def jpd (P : Nat → Nat → Bool) (g : Nat) : Nat → Nat → Bool
  | 0, t => decide (t = g)
  | k + 1, t => jE8 (fun u => P t u && jpd P g k u)
def jow (P M : Nat → Nat → Bool) (g : Nat) : Nat → Nat → Bool
  | 0, _ => false
  | k + 1, t => jE8 (fun u => P t u && jow P M g k u) || jE8 (fun u => M t u && jpd P g k u)
/-- the next place in a row of n -/
def jnx (n i : Nat) : Nat := if i + 1 = n then 0 else i + 1
def jcy (nd : Bool) (P M : Nat → Nat → Bool) (n : Nat) (r : Nat → Nat) : Prop :=
  (∀ i, i < n → r i < 8) ∧ (if nd then ∃ m, m < n ∧ M (r m) (r (jnx n m)) = true ∧ ∀ i, i < n → i ≠ m → P (r i) (r (jnx n i)) = true else ∀ i, i < n → P (r i) (r (jnx n i)) = true)
/-- the row, closed: place n is place 0 -/
def jcl (n : Nat) (r : Nat → Nat) : Nat → Nat := fun i => if i = n then r 0 else r i
theorem jcl_nx {n : Nat} {r : Nat → Nat} {i : Nat} (h : i < n) : jcl n r (i + 1) = r (jnx n i) := by
  unfold jcl jnx
  by_cases e : i + 1 = n <;> simp [e]
theorem jcl_in {n : Nat} {r : Nat → Nat} {i : Nat} (h : i < n) : jcl n r i = r i := by
  unfold jcl
  rw [if_neg (by omega)]
/-- a stretch of plain edges leads to the goal -/
theorem jpd_of {P : Nat → Nat → Bool} {g : Nat} (c : Nat → Nat) : ∀ (k a : Nat), (∀ i, a ≤ i → i < a + k → P (c i) (c (i + 1)) = true) → (∀ i, a < i → i ≤ a + k → c i < 8) → c (a + k) = g → jpd P g k (c a) = true := by
  intro k
  induction k with
  | zero => intro a _ _ h; simpa [jpd] using h
  | succ k ih =>
    intro a h1 h2 h3
    rw [jpd, jE8_iff]
    refine ⟨c (a + 1), h2 _ (by omega) (by omega), ?_⟩
    rw [Bool.and_eq_true]
    refine ⟨h1 a (by omega) (by omega), ih (a + 1) (fun i hi hi2 => h1 i (by omega) (by omega)) (fun i hi hi2 => h2 i (by omega) (by omega)) (by rw [show a + 1 + k = a + (k + 1) by omega]; exact h3)⟩
theorem jow_of {P M : Nat → Nat → Bool} {g : Nat} (c : Nat → Nat) : ∀ (k a m : Nat), a ≤ m → m < a + k → M (c m) (c (m + 1)) = true → (∀ i, a ≤ i → i < a + k → i ≠ m → P (c i) (c (i + 1)) = true) → (∀ i, a < i → i ≤ a + k → c i < 8) → c (a + k) = g → jow P M g k (c a) = true := by
  intro k
  induction k with
  | zero => intro a m h1 h2; omega
  | succ k ih =>
    intro a m h1 h2 h3 h4 h5 h6
    rw [jow, Bool.or_eq_true]
    by_cases e : a = m
    · right
      subst e
      rw [jE8_iff]
      refine ⟨c (a + 1), h5 _ (by omega) (by omega), ?_⟩
      rw [Bool.and_eq_true]
      exact ⟨h3, jpd_of c k (a + 1) (fun i hi hi2 => h4 i (by omega) (by omega) (by omega)) (fun i hi hi2 => h5 i (by omega) (by omega)) (by rw [show a + 1 + k = a + (k + 1) by omega]; exact h6)⟩
    · left
      rw [jE8_iff]
      refine ⟨c (a + 1), h5 _ (by omega) (by omega), ?_⟩
      rw [Bool.and_eq_true]
      exact ⟨h4 a (by omega) (by omega) e, ih (a + 1) m (by omega) (by omega) h3 (fun i hi hi2 hi3 => h4 i (by omega) (by omega) hi3) (fun i hi hi2 => h5 i (by omega) (by omega)) (by rw [show a + 1 + k = a + (k + 1) by omega]; exact h6)⟩
/-- and back: what the layers say comes from a row -/
theorem jpd_row {P : Nat → Nat → Bool} {g : Nat} : ∀ (k t : Nat), jpd P g k t = true → ∃ c : Nat → Nat, c 0 = t ∧ c k = g ∧ (∀ i, 0 < i → i ≤ k → c i < 8) ∧ ∀ i, i < k → P (c i) (c (i + 1)) = true := by
  intro k
  induction k with
  | zero =>
    intro t h
    have h : t = g := by simpa [jpd] using h
    exact ⟨fun _ => t, rfl, h, fun i h1 h2 => by omega, fun i h => by omega⟩
  | succ k ih =>
    intro t h
    rw [jpd, jE8_iff] at h
    obtain ⟨u, hu, h⟩ := h
    rw [Bool.and_eq_true] at h
    obtain ⟨c, c0, ck, c8, cP⟩ := ih u h.2
    refine ⟨fun i => if i = 0 then t else c (i - 1), by simp, by simp [ck], fun i h1 h2 => ?_, fun i hi => ?_⟩
    · simp only [if_neg (show ¬ i = 0 by omega)]
      by_cases e : i = 1
      · subst e; simp [c0, hu]
      · exact c8 _ (by omega) (by omega)
    · by_cases e : i = 0
      · subst e; simpa [c0] using h.1
      · have := cP (i - 1) (by omega)
        rw [show i - 1 + 1 = i by omega] at this
        simpa [e] using this
theorem jow_row {P M : Nat → Nat → Bool} {g : Nat} : ∀ (k t : Nat), jow P M g k t = true → ∃ (c : Nat → Nat) (m : Nat), c 0 = t ∧ c k = g ∧ (∀ i, 0 < i → i ≤ k → c i < 8) ∧ m < k ∧ M (c m) (c (m + 1)) = true ∧ ∀ i, i < k → i ≠ m → P (c i) (c (i + 1)) = true := by
  intro k
  induction k with
  | zero => intro t h; simp [jow] at h
  | succ k ih =>
    intro t h
    rw [jow, Bool.or_eq_true, jE8_iff, jE8_iff] at h
    rcases h with ⟨u, hu, h⟩ | ⟨u, hu, h⟩
    · rw [Bool.and_eq_true] at h
      obtain ⟨c, m, c0, ck, c8, hm, cM, cP⟩ := ih u h.2
      refine ⟨fun i => if i = 0 then t else c (i - 1), m + 1, by simp, by simp [ck], fun i h1 h2 => ?_, by omega, by simpa using cM, fun i hi hne => ?_⟩
      · simp only [if_neg (show ¬ i = 0 by omega)]
        by_cases e : i = 1
        · subst e; simp [c0, hu]
        · exact c8 _ (by omega) (by omega)
      · by_cases e : i = 0
        · subst e; simpa [c0] using h.1
        · have := cP (i - 1) (by omega) (by omega)
          rw [show i - 1 + 1 = i by omega] at this
          simpa [e] using this
    · rw [Bool.and_eq_true] at h
      obtain ⟨c, c0, ck, c8, cP⟩ := jpd_row k u h.2
      refine ⟨fun i => if i = 0 then t else c (i - 1), 0, by simp, by simp [ck], fun i h1 h2 => ?_, by omega, by simpa [c0] using h.1, fun i hi hne => ?_⟩
      · simp only [if_neg (show ¬ i = 0 by omega)]
        by_cases e : i = 1
        · subst e; simp [c0, hu]
        · exact c8 _ (by omega) (by omega)
      · have := cP (i - 1) (by omega)
        rw [show i - 1 + 1 = i by omega] at this
        simpa [hne] using this
/-- the layers of a kind -/
def jwk (nd : Bool) (P M : Nat → Nat → Bool) (g k t : Nat) : Bool := if nd then jow P M g k t else jpd P g k t
/-- a closed row is a walk from its first place home -/
theorem jcy_wk {nd : Bool} {P M : Nat → Nat → Bool} {n : Nat} {r : Nat → Nat} (hn : 0 < n) (h : jcy nd P M n r) : jwk nd P M (r 0) n (r 0) = true := by
  obtain ⟨h8, h⟩ := h
  have hc8 : ∀ i, 0 < i → i ≤ 0 + n → jcl n r i < 8 := by
    intro i h1 h2
    unfold jcl
    by_cases e : i = n
    · rw [if_pos e]; exact h8 0 hn
    · rw [if_neg e]; exact h8 i (by omega)
  have h0 : jcl n r 0 = r 0 := jcl_in hn
  have hl : jcl n r (0 + n) = r 0 := by simp [jcl]
  unfold jwk
  cases nd with
  | true =>
    simp only [if_true] at h ⊢
    obtain ⟨m, hm, hM, hP⟩ := h
    have := jow_of (P := P) (M := M) (g := r 0) (jcl n r) n 0 m (by omega) (by omega) (by rw [jcl_in hm, jcl_nx hm]; exact hM) (fun i _ hi hne => by rw [jcl_in (by omega), jcl_nx (by omega)]; exact hP i (by omega) hne) hc8 hl
    rwa [h0] at this
  | false =>
    simp only [Bool.false_eq_true, if_false] at h ⊢
    have := jpd_of (P := P) (g := r 0) (jcl n r) n 0 (fun i _ hi => by rw [jcl_in (by omega), jcl_nx (by omega)]; exact h i (by omega)) hc8 hl
    rwa [h0] at this
theorem jwk_cy {nd : Bool} {P M : Nat → Nat → Bool} {n t : Nat} (hn : 0 < n) (ht : t < 8) (h : jwk nd P M t n t = true) : ∃ r, jcy nd P M n r ∧ r 0 = t := by
  have fin : ∀ c : Nat → Nat, c 0 = t → c n = t → (∀ i, 0 < i → i ≤ n → c i < 8) → (∀ i, i < n → c i < 8) ∧ ∀ i, i < n → c (jnx n i) = c (i + 1) := by
    intro c c0 cn c8
    refine ⟨fun i hi => ?_, fun i hi => ?_⟩
    · by_cases e : i = 0
      · rw [e, c0]; exact ht
      · exact c8 i (by omega) (by omega)
    · unfold jnx
      by_cases e : i + 1 = n
      · rw [if_pos e, c0, e, cn]
      · rw [if_neg e]
  unfold jwk at h
  cases nd with
  | true =>
    simp only [if_true] at h
    obtain ⟨c, m, c0, cn, c8, hm, cM, cP⟩ := jow_row n t h
    obtain ⟨f1, f2⟩ := fin c c0 cn c8
    exact ⟨c, ⟨f1, by simp only [if_true]; exact ⟨m, hm, by rw [f2 m hm]; exact cM, fun i hi hne => by rw [f2 i hi]; exact cP i hi hne⟩⟩, c0⟩
  | false =>
    simp only [Bool.false_eq_true, if_false] at h
    obtain ⟨c, c0, cn, c8, cP⟩ := jpd_row n t h
    obtain ⟨f1, f2⟩ := fin c c0 cn c8
    exact ⟨c, ⟨f1, by simp only [Bool.false_eq_true, if_false]; exact fun i hi => by rw [f2 i hi]; exact cP i hi⟩, c0⟩
/-- closed sequences: place n is place 0 -/
def jcq (nd : Bool) (P M : Nat → Nat → Bool) (n : Nat) (c : Nat → Nat) : Prop :=
  c n = c 0 ∧ (∀ i, i ≤ n → c i < 8) ∧ (if nd then ∃ m, m < n ∧ M (c m) (c (m + 1)) = true ∧ ∀ i, i < n → i ≠ m → P (c i) (c (i + 1)) = true else ∀ i, i < n → P (c i) (c (i + 1)) = true)
theorem jcy_q {nd : Bool} {P M : Nat → Nat → Bool} {n : Nat} {r : Nat → Nat} (hn : 0 < n) (h : jcy nd P M n r) : jcq nd P M n (jcl n r) := by
  obtain ⟨h8, h⟩ := h
  refine ⟨by rw [jcl_in hn]; simp [jcl], fun i hi => ?_, ?_⟩
  · unfold jcl
    by_cases e : i = n
    · rw [if_pos e]; exact h8 0 hn
    · rw [if_neg e]; exact h8 i (by omega)
  · cases nd with
    | true =>
      simp only [if_true] at h ⊢
      obtain ⟨m, hm, hM, hP⟩ := h
      exact ⟨m, hm, by rw [jcl_in hm, jcl_nx hm]; exact hM, fun i hi hne => by rw [jcl_in hi, jcl_nx hi]; exact hP i hi hne⟩
    | false =>
      simp only [Bool.false_eq_true, if_false] at h ⊢
      exact fun i hi => by rw [jcl_in hi, jcl_nx hi]; exact h i hi
theorem jcq_nx {n : Nat} {c : Nat → Nat} (hc : c n = c 0) {i : Nat} (_hi : i < n) : c (jnx n i) = c (i + 1) := by
  unfold jnx
  by_cases e : i + 1 = n
  · rw [if_pos e, e, hc]
  · rw [if_neg e]
theorem jcq_y {nd : Bool} {P M : Nat → Nat → Bool} {n : Nat} {c : Nat → Nat} (h : jcq nd P M n c) : jcy nd P M n c := by
  obtain ⟨hc, h8, h⟩ := h
  refine ⟨fun i hi => h8 i (by omega), ?_⟩
  cases nd with
  | true =>
    simp only [if_true] at h ⊢
    obtain ⟨m, hm, hM, hP⟩ := h
    exact ⟨m, hm, by rw [jcq_nx hc hm]; exact hM, fun i hi hne => by rw [jcq_nx hc hi]; exact hP i hi hne⟩
  | false =>
    simp only [Bool.false_eq_true, if_false] at h ⊢
    exact fun i hi => by rw [jcq_nx hc hi]; exact h i hi
/-- a closed sequence that meets somebody twice holds a shorter one of its kind -/
theorem jcq_split {nd : Bool} {P M : Nat → Nat → Bool} {n : Nat} {c : Nat → Nat} (h : jcq nd P M n c) {i j : Nat} (hij : i < j) (hj : j < n) (he : c i = c j) : ∃ n' c', 0 < n' ∧ n' < n ∧ jcq nd P M n' c' := by
  obtain ⟨hc, h8, h⟩ := h
  have inner : ∀ Q : Nat → Nat → Bool, ∀ a, a < j - i → Q (c (i + a)) (c (i + (a + 1))) = Q (c (i + a)) (c (i + a + 1)) := fun Q a _ => by rw [Nat.add_assoc]
  -- the outer one
  have o1 : ∀ a, a ≤ i → (fun a => if a ≤ i then c a else c (a + (j - i))) a = c a := fun a ha => if_pos ha
  have o2 : ∀ a, i ≤ a → (fun a => if a ≤ i then c a else c (a + (j - i))) a = c (a + (j - i)) := by
    intro a ha
    by_cases e : a = i
    · subst e
      show (if a ≤ a then c a else _) = _
      rw [if_pos (Nat.le_refl _), he]
      congr 1; omega
    · show (if a ≤ i then c a else _) = _
      rw [if_neg (by omega)]
  have oN : (fun a => if a ≤ i then c a else c (a + (j - i))) (n - (j - i)) = (fun a => if a ≤ i then c a else c (a + (j - i))) 0 := by
    rw [o2 _ (by omega), o1 0 (by omega), ← hc]
    congr 1; omega
  have o8 : ∀ a, a ≤ n - (j - i) → (fun a => if a ≤ i then c a else c (a + (j - i))) a < 8 := by
    intro a ha
    rcases Nat.le_total a i with h1 | h1
    · rw [o1 a h1]; exact h8 a (by omega)
    · rw [o2 a h1]; exact h8 _ (by omega)
  have oE : ∀ a, a < n - (j - i) → ∃ b, b < n ∧ (b < i ∨ j ≤ b) ∧ b = (if a < i then a else a + (j - i)) ∧ (fun a => if a ≤ i then c a else c (a + (j - i))) a = c b ∧ (fun a => if a ≤ i then c a else c (a + (j - i))) (a + 1) = c (b + 1) := by
    intro a ha
    by_cases h1 : a < i
    · exact ⟨a, by omega, Or.inl h1, by rw [if_pos h1], o1 a (by omega), o1 (a + 1) (by omega)⟩
    · refine ⟨a + (j - i), by omega, Or.inr (by omega), by rw [if_neg h1], o2 a (by omega), ?_⟩
      rw [o2 (a + 1) (by omega)]
      congr 1; omega
  cases nd with
  | false =>
    simp only [Bool.false_eq_true, if_false] at h
    refine ⟨j - i, fun a => c (i + a), by omega, by omega, ?_, fun a ha => h8 _ (by omega), ?_⟩
    · show c (i + (j - i)) = c (i + 0)
      rw [show i + (j - i) = j by omega, Nat.add_zero, he]
    · simp only [Bool.false_eq_true, if_false]
      exact fun a ha => h (i + a) (by omega)
  | true =>
    simp only [if_true] at h
    obtain ⟨m, hm, hM, hP⟩ := h
    by_cases hin : i ≤ m ∧ m < j
    · refine ⟨j - i, fun a => c (i + a), by omega, by omega, ?_, fun a ha => h8 _ (by omega), ?_⟩
      · show c (i + (j - i)) = c (i + 0)
        rw [show i + (j - i) = j by omega, Nat.add_zero, he]
      · simp only [if_true]
        refine ⟨m - i, by omega, ?_, fun a ha hne => hP (i + a) (by omega) (by omega)⟩
        rw [show i + (m - i) = m by omega, show i + (m - i + 1) = m + 1 by omega]
        exact hM
    · refine ⟨n - (j - i), fun a => if a ≤ i then c a else c (a + (j - i)), by omega, by omega, oN, o8, ?_⟩
      simp only [if_true]
      have hm' : (if m < i then m else m - (j - i)) < n - (j - i) := by
        by_cases h1 : m < i
        · rw [if_pos h1]; omega
        · rw [if_neg h1]; omega
      refine ⟨if m < i then m else m - (j - i), hm', ?_, fun a ha hne => ?_⟩
      · obtain ⟨b, hb, -, e0, e1, e2⟩ := oE _ hm'
        have hbm : b = m := by
          rw [e0]
          by_cases h1 : m < i
          · simp only [if_pos h1]
          · simp only [if_neg h1]
            rw [if_neg (by omega)]; omega
        dsimp only at e1 e2 ⊢
        rw [e1, e2, hbm]; exact hM
      · obtain ⟨b, hb, -, e0, e1, e2⟩ := oE a ha
        dsimp only at e1 e2 ⊢
        rw [e1, e2]
        refine hP b hb (fun q => hne ?_)
        rw [← q, e0]
        by_cases h1 : a < i
        · simp only [if_pos h1]
        · simp only [if_neg h1]
          rw [if_neg (by omega)]; omega
/-- begun elsewhere -/
theorem jcq_rot {nd : Bool} {P M : Nat → Nat → Bool} {n : Nat} {c : Nat → Nat} (h : jcq nd P M n c) {k : Nat} (hk : k < n) : ∃ c', jcq nd P M n c' ∧ c' 0 = c k := by
  obtain ⟨hc, h8, h⟩ := h
  refine ⟨fun a => if a + k < n then c (a + k) else c (a + k - n), ⟨?_, fun a ha => ?_, ?_⟩, ?_⟩
  · show (if n + k < n then _ else c (n + k - n)) = (if 0 + k < n then c (0 + k) else _)
    rw [if_neg (by omega), if_pos (by omega)]
    congr 1; omega
  · show (if a + k < n then c (a + k) else c (a + k - n)) < 8
    split
    · exact h8 _ (by omega)
    · exact h8 _ (by omega)
  · have ed : ∀ a, a < n → ∃ b, b < n ∧ b = (if a + k < n then a + k else a + k - n) ∧ (if a + k < n then c (a + k) else c (a + k - n)) = c b ∧ (if a + 1 + k < n then c (a + 1 + k) else c (a + 1 + k - n)) = c (b + 1) := by
      intro a ha
      by_cases h1 : a + k < n
      · refine ⟨a + k, h1, by rw [if_pos h1], by rw [if_pos h1], ?_⟩
        by_cases h2 : a + 1 + k < n
        · rw [if_pos h2]; congr 1; omega
        · rw [if_neg h2, show a + 1 + k - n = 0 by omega, ← hc]; congr 1; omega
      · refine ⟨a + k - n, by omega, by rw [if_neg h1], by rw [if_neg h1], ?_⟩
        rw [if_neg (by omega)]; congr 1; omega
    cases nd with
    | false =>
      simp only [Bool.false_eq_true, if_false] at h ⊢
      intro a ha
      obtain ⟨b, hb, -, e1, e2⟩ := ed a ha
      rw [e1, e2]; exact h b hb
    | true =>
      simp only [if_true] at h ⊢
      obtain ⟨m, hm, hM, hP⟩ := h
      have hm' : (if k ≤ m then m - k else m + n - k) < n := by
        by_cases h1 : k ≤ m
        · rw [if_pos h1]; omega
        · rw [if_neg h1]; omega
      refine ⟨if k ≤ m then m - k else m + n - k, hm', ?_, fun a ha hne => ?_⟩
      · obtain ⟨b, hb, e0, e1, e2⟩ := ed _ hm'
        have hbm : b = m := by
          rw [e0]
          by_cases h1 : k ≤ m
          · simp only [if_pos h1]; rw [if_pos (by omega)]; omega
          · simp only [if_neg h1]; rw [if_neg (by omega)]; omega
        rw [e1, e2, hbm]; exact hM
      · obtain ⟨b, hb, e0, e1, e2⟩ := ed a ha
        rw [e1, e2]
        refine hP b hb (fun q => hne ?_)
        rw [← q, e0]
        by_cases h1 : a + k < n
        · simp only [if_pos h1]; rw [if_pos (by omega)]; omega
        · simp only [if_neg h1]; rw [if_neg (by omega)]; omega
  · show (if 0 + k < n then c (0 + k) else _) = c k
    rw [if_pos (by omega), Nat.zero_add]
/-- row a comes no later than row b -/
def jlx (n : Nat) (a b : Nat → Nat) : Prop := ∀ k, k < n → (∀ i, i < k → a i = b i) → a k ≤ b k
theorem jlx_anti {n : Nat} {a b : Nat → Nat} (h1 : jlx n a b) (h2 : jlx n b a) : ∀ i, i < n → a i = b i := by
  intro i
  induction i using Nat.strongRecOn with
  | ind i ih =>
    intro hi
    have e : ∀ k, k < i → a k = b k := fun k hk => ih k hk (by omega)
    exact Nat.le_antisymm (h1 i hi e) (h2 i hi (fun k hk => (e k hk).symm))
/-- the least of the shortest -/
def jmn (C : Nat → (Nat → Nat) → Prop) (n : Nat) (r : Nat → Nat) : Prop := 2 ≤ n ∧ n ≤ 8 ∧ C n r ∧ (∀ n' r', 2 ≤ n' → n' < n → ¬ C n' r') ∧ ∀ r', C n r' → jlx n r r'
/-- a cycle as the document has it: nobody twice, the least first -/
def jsc (nd : Bool) (P M : Nat → Nat → Bool) (n : Nat) (r : Nat → Nat) : Prop := jcy nd P M n r ∧ (∀ i j, i < n → j < n → r i = r j → i = j) ∧ ∀ i, 0 < i → i < n → r 0 < r i
theorem jcy_simple {nd : Bool} {P M : Nat → Nat → Bool} (hP : ∀ t, P t t = false) (hM : ∀ t, M t t = false) {n : Nat} {r : Nat → Nat} (h : jmn (jcy nd P M) n r) : jsc nd P M n r := by
  obtain ⟨h2, h8, hc, hs, hl⟩ := h
  have inj : ∀ i j, i < j → j < n → r i ≠ r j := by
    intro i j hij hj he
    obtain ⟨n', c', h0, hn', hq⟩ := jcq_split (jcy_q (by omega) hc) hij hj (by rw [jcl_in (by omega), jcl_in hj]; exact he)
    by_cases h1 : n' = 1
    · subst h1
      obtain ⟨hq1, -, hq3⟩ := hq
      cases nd with
      | true =>
        simp only [if_true] at hq3
        obtain ⟨m, hm, hMm, -⟩ := hq3
        have : m = 0 := by omega
        subst this
        rw [show (0 + 1 : Nat) = 1 from rfl, hq1, hM] at hMm
        cases hMm
      | false =>
        simp only [Bool.false_eq_true, if_false] at hq3
        have := hq3 0 (by omega)
        rw [show (0 + 1 : Nat) = 1 from rfl, hq1, hP] at this
        cases this
    · exact hs n' c' (by omega) hn' (jcq_y hq)
  refine ⟨hc, fun i j hi hj he => ?_, fun i h0 hi => ?_⟩
  · rcases Nat.lt_trichotomy i j with h | h | h
    · exact absurd he (inj i j h hj)
    · exact h
    · exact absurd he.symm (inj j i h hi)
  · obtain ⟨c', hq, e⟩ := jcq_rot (jcy_q (by omega) hc) hi
    rw [jcl_in hi] at e
    have := hl c' (jcq_y hq) 0 (by omega) (fun i hi => by omega)
    rw [e] at this
    have hne := inj 0 i h0 hi
    omega
/-- the least closed walk and the least cycle are one -/
theorem jmn_same {nd : Bool} {P M : Nat → Nat → Bool} (hP : ∀ t, P t t = false) (hM : ∀ t, M t t = false) {n n2 : Nat} {r r2 : Nat → Nat} (h : jmn (jcy nd P M) n r) (h2 : jmn (jsc nd P M) n2 r2) : n = n2 ∧ ∀ i, i < n → r i = r2 i := by
  have hs := jcy_simple hP hM h
  have e : n = n2 := by
    rcases Nat.lt_trichotomy n n2 with q | q | q
    · exact absurd hs (h2.2.2.2.1 n r h.1 q)
    · exact q
    · exact absurd h2.2.2.1.1 (h.2.2.2.1 n2 r2 h2.1 q)
  subst e
  exact ⟨rfl, jlx_anti (h.2.2.2.2 r2 h2.2.2.1.1) (h2.2.2.2.2 r hs)⟩
theorem jmn_none {nd : Bool} {P M : Nat → Nat → Bool} {n : Nat} {r : Nat → Nat} (h : ∀ n' r', 2 ≤ n' → n' ≤ 8 → ¬ jcy nd P M n' r') : ¬ jmn (jsc nd P M) n r := fun q => h n r q.1 q.2.1 q.2.2.1.1
end
section
/-! The search for a cycle, purely: the shortest of each, the first of the shortest, the row that is laid step by step. -/
def jsp (w : Nat → Bool) (s : Nat) : Prop := (s = 0 ∧ ∀ k, 2 ≤ k → k ≤ 8 → w k = false) ∨ (2 ≤ s ∧ s ≤ 8 ∧ w s = true ∧ ∀ k, 2 ≤ k → k < s → w k = false)
/-- behind the first t of them: the shortest so far and whose it is -/
def jfd (s : Nat → Nat) (t len first : Nat) : Prop := (len = 0 ∧ ∀ u, u < t → s u = 0) ∨ (len ≠ 0 ∧ first < t ∧ s first = len ∧ ∀ u, u < t → s u = 0 ∨ len < s u ∨ (len = s u ∧ first ≤ u))
theorem jfd_0 {s : Nat → Nat} : jfd s 0 0 0 := Or.inl ⟨rfl, fun u h => by omega⟩
theorem jfd_take {s : Nat → Nat} {t len first : Nat} (h : jfd s t len first) (h1 : s t ≠ 0) (h2 : len = 0 ∨ s t < len) : jfd s (t + 1) (s t) t := by
  refine Or.inr ⟨h1, by omega, rfl, fun u hu => ?_⟩
  by_cases e : u = t
  · subst e; exact Or.inr (Or.inr ⟨rfl, Nat.le_refl _⟩)
  · rcases h with ⟨h0, h⟩ | ⟨h0, h3, h4, h⟩
    · exact Or.inl (h u (by omega))
    · rcases h u (by omega) with q | q | q
      · exact Or.inl q
      · exact Or.inr (Or.inl (by omega))
      · exact Or.inr (Or.inl (by omega))
theorem jfd_leave {s : Nat → Nat} {t len first : Nat} (h : jfd s t len first) (h1 : ¬ (s t ≠ 0 ∧ (len = 0 ∨ s t < len))) : jfd s (t + 1) len first := by
  rcases h with ⟨h0, h⟩ | ⟨h0, h3, h4, h⟩
  · refine Or.inl ⟨h0, fun u hu => ?_⟩
    by_cases e : u = t
    · subst e
      by_cases z : s u = 0
      · exact z
      · exact absurd ⟨z, Or.inl h0⟩ h1
    · exact h u (by omega)
  · refine Or.inr ⟨h0, by omega, h4, fun u hu => ?_⟩
    by_cases e : u = t
    · subst e
      by_cases z : s u = 0
      · exact Or.inl z
      · by_cases z2 : s u < len
        · exact absurd ⟨z, Or.inr z2⟩ h1
        · by_cases z3 : len = s u
          · exact Or.inr (Or.inr ⟨z3, by omega⟩)
          · exact Or.inr (Or.inl (by omega))
    · exact h u (by omega)
/-- the row so far: i + 1 places laid, whether the mark may still be owing, whether it may be paid -/
def jti (nd : Bool) (P M : Nat → Nat → Bool) (n i : Nat) (row : Nat → Nat) (mo mp : Bool) : Prop :=
  i < n ∧ (∀ k, k ≤ i → row k < 8) ∧ (mo = true ↔ nd = true ∧ (∀ k, k < i → P (row k) (row (k + 1)) = true) ∧ jow P M (row 0) (n - i) (row i) = true) ∧
  (mp = true ↔ (if nd then ∃ m, m < i ∧ M (row m) (row (m + 1)) = true ∧ ∀ k, k < i → k ≠ m → P (row k) (row (k + 1)) = true else ∀ k, k < i → P (row k) (row (k + 1)) = true) ∧ jpd P (row 0) (n - i) (row i) = true) ∧
  (mo = true ∨ mp = true) ∧ ∀ r, jcy nd P M n r → r 0 = row 0 → ∀ k, k ≤ i → (∀ j, j < k → row j = r j) → row k ≤ r k
theorem jti_0 {nd : Bool} {P M : Nat → Nat → Bool} {n t : Nat} (hn : 0 < n) (ht : t < 8) (h : jwk nd P M t n t = true) {row : Nat → Nat} (hr : row 0 = t) : jti nd P M n 0 row nd (!nd) := by
  subst hr
  unfold jwk at h
  refine ⟨hn, fun k hk => by rw [show k = 0 by omega]; exact ht, ?_, ?_, ?_, fun r _ h0 k hk _ => by rw [show k = 0 by omega, h0]; exact Nat.le_refl _⟩
  · cases nd with
    | true => simp only [if_true] at h; exact ⟨fun _ => ⟨rfl, fun k hk => by omega, h⟩, fun _ => rfl⟩
    | false => exact ⟨fun q => (by cases q), fun q => (by cases q.1)⟩
  · cases nd with
    | true => exact ⟨fun q => (by cases q), fun q => (by simp only [if_true] at q; obtain ⟨⟨m, hm, -⟩, -⟩ := q; omega)⟩
    | false => simp only [Bool.false_eq_true, if_false] at h ⊢; exact ⟨fun _ => ⟨fun k hk => by omega, h⟩, fun _ => rfl⟩
  · cases nd <;> simp
/-- what may stand next -/
def jso (P M : Nat → Nat → Bool) (g left from_ : Nat) (mo : Bool) (u : Nat) : Bool := mo && (P from_ u && jow P M g left u)
def jnp (P M : Nat → Nat → Bool) (g left from_ : Nat) (mo : Bool) (u : Nat) : Bool := mo && (M from_ u && jpd P g left u)
def jsq (P : Nat → Nat → Bool) (g left from_ : Nat) (mp : Bool) (u : Nat) : Bool := mp && (P from_ u && jpd P g left u)
def jal (P M : Nat → Nat → Bool) (g left from_ : Nat) (mo mp : Bool) (u : Nat) : Bool := (jso P M g left from_ mo u || jnp P M g left from_ mo u) || jsq P g left from_ mp u
theorem jti_some {nd : Bool} {P M : Nat → Nat → Bool} {n i : Nat} {row : Nat → Nat} {mo mp : Bool} (h : jti nd P M n i row mo mp) (hi : i + 1 < n) : ∃ u, u < 8 ∧ jal P M (row 0) (n - (i + 1)) (row i) mo mp u = true := by
  obtain ⟨-, -, h1, h2, h3, -⟩ := h
  have e : n - i = (n - (i + 1)) + 1 := by omega
  rcases h3 with q | q
  · have := (h1.mp q).2.2
    rw [e, jow, Bool.or_eq_true, jE8_iff, jE8_iff] at this
    rcases this with ⟨u, hu, z⟩ | ⟨u, hu, z⟩
    · exact ⟨u, hu, by simp [jal, jso, q, z]⟩
    · exact ⟨u, hu, by simp [jal, jnp, q, z]⟩
  · have := (h2.mp q).2
    rw [e, jpd, jE8_iff] at this
    obtain ⟨u, hu, z⟩ := this
    exact ⟨u, hu, by simp [jal, jsq, q, z]⟩
theorem jti_step {nd : Bool} {P M : Nat → Nat → Bool} {n i : Nat} {row row' : Nat → Nat} {mo mp : Bool} (h : jti nd P M n i row mo mp) (hi : i + 1 < n) {x : Nat} (hx : x < 8) (hall : jal P M (row 0) (n - (i + 1)) (row i) mo mp x = true) (hlst : ∀ u, u < x → jal P M (row 0) (n - (i + 1)) (row i) mo mp u = false)
    (hrow : ∀ k, k ≤ i → row' k = row k) (hnew : row' (i + 1) = x) : jti nd P M n (i + 1) row' (jso P M (row 0) (n - (i + 1)) (row i) mo x) (jnp P M (row 0) (n - (i + 1)) (row i) mo x || jsq P (row 0) (n - (i + 1)) (row i) mp x) := by
  obtain ⟨-, g1, g2, g3, g4, g5⟩ := h
  have r0 : row' 0 = row 0 := hrow 0 (by omega)
  have ri : row' i = row i := hrow i (Nat.le_refl _)
  have ed : ∀ (Q : Nat → Nat → Bool) (k : Nat), k < i → Q (row' k) (row' (k + 1)) = Q (row k) (row (k + 1)) := fun Q k hk => by rw [hrow k (by omega), hrow (k + 1) (by omega)]
  have e : n - i = (n - (i + 1)) + 1 := by omega
  refine ⟨hi, fun k hk => ?_, ?_, ?_, ?_, ?_⟩
  · by_cases q : k = i + 1
    · rw [q, hnew]; exact hx
    · rw [hrow k (by omega)]; exact g1 k (by omega)
  · rw [r0, hnew]
    constructor
    · intro q
      simp only [jso, Bool.and_eq_true] at q
      obtain ⟨q1, q2, q3⟩ := q
      obtain ⟨z1, z2, -⟩ := g2.mp q1
      refine ⟨z1, fun k hk => ?_, q3⟩
      by_cases w : k = i
      · rw [w, ri, hnew]; exact q2
      · rw [ed P k (by omega)]; exact z2 k (by omega)
    · rintro ⟨z1, z2, z3⟩
      simp only [jso, Bool.and_eq_true]
      have zP : P (row i) x = true := by have := z2 i (by omega); rwa [ri, hnew] at this
      refine ⟨g2.mpr ⟨z1, fun k hk => by rw [← ed P k hk]; exact z2 k (by omega), ?_⟩, zP, z3⟩
      rw [e, jow, Bool.or_eq_true, jE8_iff]
      exact Or.inl ⟨x, hx, by simp [zP, z3]⟩
  · rw [r0, hnew, Bool.or_eq_true]
    constructor
    · rintro (q | q)
      · simp only [jnp, Bool.and_eq_true] at q
        obtain ⟨q1, q2, q3⟩ := q
        obtain ⟨z1, z2, -⟩ := g2.mp q1
        refine ⟨?_, q3⟩
        rw [if_pos z1]
        refine ⟨i, by omega, by rw [ri, hnew]; exact q2, fun k hk hne => ?_⟩
        rw [ed P k (by omega)]; exact z2 k (by omega)
      · simp only [jsq, Bool.and_eq_true] at q
        obtain ⟨q1, q2, q3⟩ := q
        obtain ⟨z1, -⟩ := g3.mp q1
        refine ⟨?_, q3⟩
        cases nd with
        | true =>
          simp only [if_true] at z1 ⊢
          obtain ⟨m, hm, hM, hP⟩ := z1
          refine ⟨m, by omega, by rw [ed M m hm]; exact hM, fun k hk hne => ?_⟩
          by_cases w : k = i
          · rw [w, ri, hnew]; exact q2
          · rw [ed P k (by omega)]; exact hP k (by omega) hne
        | false =>
          simp only [Bool.false_eq_true, if_false] at z1 ⊢
          intro k hk
          by_cases w : k = i
          · rw [w, ri, hnew]; exact q2
          · rw [ed P k (by omega)]; exact z1 k (by omega)
    · rintro ⟨z, z3⟩
      cases nd with
      | true =>
        simp only [if_true] at z
        obtain ⟨m, hm, hM, hP⟩ := z
        by_cases w : m = i
        · left
          subst w
          have zM : M (row m) x = true := by rwa [ri, hnew] at hM
          simp only [jnp, Bool.and_eq_true]
          refine ⟨g2.mpr ⟨rfl, fun k hk => by rw [← ed P k hk]; exact hP k (by omega) (by omega), ?_⟩, zM, z3⟩
          rw [e, jow, Bool.or_eq_true, jE8_iff, jE8_iff]
          exact Or.inr ⟨x, hx, by simp [zM, z3]⟩
        · right
          have zP : P (row i) x = true := by have := hP i (by omega) (by omega); rwa [ri, hnew] at this
          simp only [jsq, Bool.and_eq_true]
          refine ⟨g3.mpr ⟨?_, ?_⟩, zP, z3⟩
          · simp only [if_true]
            exact ⟨m, by omega, by rw [← ed M m (by omega)]; exact hM, fun k hk hne => by rw [← ed P k hk]; exact hP k (by omega) hne⟩
          · rw [e, jpd, jE8_iff]
            exact ⟨x, hx, by simp [zP, z3]⟩
      | false =>
        simp only [Bool.false_eq_true, if_false] at z
        right
        have zP : P (row i) x = true := by have := z i (by omega); rwa [ri, hnew] at this
        simp only [jsq, Bool.and_eq_true]
        refine ⟨g3.mpr ⟨?_, ?_⟩, zP, z3⟩
        · simp only [Bool.false_eq_true, if_false]
          exact fun k hk => by rw [← ed P k hk]; exact z k (by omega)
        · rw [e, jpd, jE8_iff]
          exact ⟨x, hx, by simp [zP, z3]⟩
  · unfold jal at hall
    rw [Bool.or_eq_true, Bool.or_eq_true] at hall
    rcases hall with (q | q) | q
    · exact Or.inl q
    · exact Or.inr (by rw [q]; rfl)
    · exact Or.inr (by rw [q, Bool.or_true])
  · intro r hr hr0 k hk hag
    by_cases w : k = i + 1
    · subst w
      rw [hnew]
      have ag : ∀ j, j ≤ i → r j = row j := fun j hj => by rw [← hag j (by omega), hrow j hj]
      refine Nat.le_of_not_lt (fun hlt => ?_)
      have hf := hlst _ hlt
      have hc := jcy_q (n := n) (by omega) hr
      obtain ⟨cN, c8, hc⟩ := hc
      have cin : ∀ j, j < n → jcl n r j = r j := fun j hj => jcl_in hj
      have c0 : jcl n r 0 = row 0 := by rw [cin 0 (by omega), hr0, r0]
      have cl : jcl n r (i + 1 + (n - (i + 1))) = row 0 := by rw [show i + 1 + (n - (i + 1)) = n by omega, cN, c0]
      have cx : jcl n r (i + 1) = r (i + 1) := cin _ (by omega)
      have ci : jcl n r i = row i := by rw [cin i (by omega), ag i (by omega)]
      have edc : ∀ (Q : Nat → Nat → Bool) (k : Nat), k < i → Q (jcl n r k) (jcl n r (k + 1)) = Q (row k) (row (k + 1)) := fun Q k hk => by rw [cin k (by omega), cin (k + 1) (by omega), ag k (by omega), ag (k + 1) (by omega)]
      have c8' : ∀ j, i + 1 < j → j ≤ i + 1 + (n - (i + 1)) → jcl n r j < 8 := fun j _ h2 => c8 j (by omega)
      have xin : r (i + 1) < 8 := by rw [← cx]; exact c8 _ (by omega)
      cases nd with
      | true =>
        simp only [if_true] at hc
        obtain ⟨m, hm, hM, hP⟩ := hc
        rcases Nat.lt_trichotomy m i with q | q | q
        · have tP : P (row i) (r (i + 1)) = true := by have := hP i (by omega) (by omega); rwa [ci, cx] at this
          have tp := jpd_of (P := P) (g := row 0) (jcl n r) (n - (i + 1)) (i + 1) (fun j h1 h2 => hP j (by omega) (by omega)) c8' cl
          rw [cx] at tp
          have hmp : mp = true := g3.mpr ⟨by simp only [if_true]; exact ⟨m, q, by rw [← edc M m q]; exact hM, fun j hj hne => by rw [← edc P j hj]; exact hP j (by omega) hne⟩, by rw [e, jpd, jE8_iff]; exact ⟨r (i + 1), xin, by simp [tP, tp]⟩⟩
          simp [jal, jsq, hmp, tP, tp] at hf
        · subst q
          have tM : M (row m) (r (m + 1)) = true := by rwa [ci, cx] at hM
          have tp := jpd_of (P := P) (g := row 0) (jcl n r) (n - (m + 1)) (m + 1) (fun j h1 h2 => hP j (by omega) (by omega)) c8' cl
          rw [cx] at tp
          have hmo : mo = true := g2.mpr ⟨rfl, fun j hj => by rw [← edc P j hj]; exact hP j (by omega) (by omega), by rw [e, jow, Bool.or_eq_true, jE8_iff, jE8_iff]; exact Or.inr ⟨r (m + 1), xin, by simp [tM, tp]⟩⟩
          simp [jal, jnp, hmo, tM, tp] at hf
        · have tP : P (row i) (r (i + 1)) = true := by have := hP i (by omega) (by omega); rwa [ci, cx] at this
          have tw := jow_of (P := P) (M := M) (g := row 0) (jcl n r) (n - (i + 1)) (i + 1) m (by omega) (by omega) hM (fun j h1 h2 hne => hP j (by omega) hne) c8' cl
          rw [cx] at tw
          have hmo : mo = true := g2.mpr ⟨rfl, fun j hj => by rw [← edc P j hj]; exact hP j (by omega) (by omega), by rw [e, jow, Bool.or_eq_true, jE8_iff, jE8_iff]; exact Or.inl ⟨r (i + 1), xin, by simp [tP, tw]⟩⟩
          simp [jal, jso, hmo, tP, tw] at hf
      | false =>
        simp only [Bool.false_eq_true, if_false] at hc
        have tP : P (row i) (r (i + 1)) = true := by have := hc i (by omega); rwa [ci, cx] at this
        have tp := jpd_of (P := P) (g := row 0) (jcl n r) (n - (i + 1)) (i + 1) (fun j h1 h2 => hc j (by omega)) c8' cl
        rw [cx] at tp
        have hmp : mp = true := g3.mpr ⟨by simp only [Bool.false_eq_true, if_false]; exact fun j hj => by rw [← edc P j hj]; exact hc j (by omega), by rw [e, jpd, jE8_iff]; exact ⟨r (i + 1), xin, by simp [tP, tp]⟩⟩
        simp [jal, jsq, hmp, tP, tp] at hf
    · rw [hrow k (by omega)]
      exact g5 r hr (by rw [hr0, r0]) k (by omega) (fun j hj => by rw [← hrow j (by omega)]; exact hag j hj)
theorem jti_end {nd : Bool} {P M : Nat → Nat → Bool} {n i : Nat} {row : Nat → Nat} {mo mp : Bool} (h : jti nd P M n i row mo mp) (hi : i + 1 = n) : jcy nd P M n row ∧ ∀ r, jcy nd P M n r → r 0 = row 0 → jlx n row r := by
  obtain ⟨-, g1, g2, g3, g4, g5⟩ := h
  subst hi
  have e : i + 1 - i = 0 + 1 := by omega
  have nxi : jnx (i + 1) i = 0 := by simp [jnx]
  have nxk : ∀ k, k < i → jnx (i + 1) k = k + 1 := fun k hk => by unfold jnx; rw [if_neg (by omega)]
  refine ⟨⟨fun k hk => g1 k (by omega), ?_⟩, fun r hr hr0 k hk hag => g5 r hr hr0 k (by omega) hag⟩
  rcases g4 with q | q
  · obtain ⟨z1, z2, z3⟩ := g2.mp q
    rw [if_pos z1]
    rw [e, jow, Bool.or_eq_true, jE8_iff, jE8_iff] at z3
    rcases z3 with ⟨u, -, z⟩ | ⟨u, -, z⟩
    · simp [jow] at z
    · simp only [jpd, Bool.and_eq_true, decide_eq_true_eq] at z
      refine ⟨i, by omega, by rw [nxi, ← z.2]; exact z.1, fun k hk hne => by rw [nxk k (by omega)]; exact z2 k (by omega)⟩
  · obtain ⟨z1, z2⟩ := g3.mp q
    rw [e, jpd, jE8_iff] at z2
    obtain ⟨u, -, z⟩ := z2
    simp only [jpd, Bool.and_eq_true, decide_eq_true_eq] at z
    have last : P (row i) (row (jnx (i + 1) i)) = true := by rw [nxi, ← z.2]; exact z.1
    cases nd with
    | true =>
      simp only [if_true] at z1 ⊢
      obtain ⟨m, hm, hM, hP⟩ := z1
      refine ⟨m, by omega, by rw [nxk m hm]; exact hM, fun k hk hne => ?_⟩
      by_cases w : k = i
      · rw [w]; exact last
      · rw [nxk k (by omega)]; exact hP k (by omega) hne
    | false =>
      simp only [Bool.false_eq_true, if_false] at z1 ⊢
      intro k hk
      by_cases w : k = i
      · rw [w]; exact last
      · rw [nxk k (by omega)]; exact z1 k (by omega)
/-- what the search has found -/
theorem jfd_none {nd : Bool} {P M : Nat → Nat → Bool} {s : Nat → Nat} {first : Nat} (hs : ∀ t, t < 8 → jsp (fun k => jwk nd P M t k t) (s t)) (h : jfd s 8 0 first) : ∀ n r, 2 ≤ n → n ≤ 8 → ¬ jcy nd P M n r := by
  intro n r h2 h8 hc
  have ht := hc.1 0 (by omega)
  have hw := jcy_wk (by omega) hc
  rcases h with ⟨-, h⟩ | ⟨h, -⟩
  · rcases hs (r 0) ht with ⟨-, q⟩ | ⟨q, -⟩
    · have z := q n h2 h8
      dsimp only at z
      rw [z] at hw; cases hw
    · have := h (r 0) ht; omega
  · exact absurd rfl h
theorem jfd_some {nd : Bool} {P M : Nat → Nat → Bool} {s : Nat → Nat} {len first : Nat} {row : Nat → Nat} {mo mp : Bool} {i : Nat} (hs : ∀ t, t < 8 → jsp (fun k => jwk nd P M t k t) (s t)) (h : jfd s 8 len first) (hl : len ≠ 0) (hr : row 0 = first) (ht : jti nd P M len i row mo mp) (hi : i + 1 = len) : jmn (jcy nd P M) len row := by
  rcases h with ⟨h, -⟩ | ⟨-, h1, h2, h3⟩
  · exact absurd h hl
  · have hlen : 2 ≤ len ∧ len ≤ 8 := by
      rcases hs first h1 with ⟨q, -⟩ | ⟨q1, q2, -⟩
      · omega
      · omega
    obtain ⟨e1, e2⟩ := jti_end ht hi
    refine ⟨hlen.1, hlen.2, e1, fun n' r' g1 g2 hc => ?_, fun r' hc => ?_⟩
    · have ht := hc.1 0 (by omega)
      have hw := jcy_wk (by omega) hc
      rcases hs (r' 0) ht with ⟨q1, q⟩ | ⟨q1, q2, q3, q4⟩
      · have z := q n' g1 (by omega)
        dsimp only at z
        rw [z] at hw; cases hw
      · have hge : len ≤ s (r' 0) := by rcases h3 (r' 0) ht with z | z | z <;> omega
        have := q4 n' g1 (by omega)
        simp only at this
        rw [this] at hw; cases hw
    · have ht := hc.1 0 (by omega)
      have hw := jcy_wk (by omega) hc
      have hle : first ≤ r' 0 := by
        rcases hs (r' 0) ht with ⟨q1, q⟩ | ⟨q1, q2, q3, q4⟩
        · have z := q len hlen.1 hlen.2
          dsimp only at z
          rw [z] at hw; cases hw
        · rcases h3 (r' 0) ht with z | z | z
          · omega
          · have := q4 len hlen.1 z
            simp only at this
            rw [this] at hw; cases hw
          · exact z.2
      by_cases q : r' 0 = first
      · exact e2 r' hc (by rw [q, hr])
      · intro k hk hag
        cases k with
        | zero => rw [hr]; exact hle
        | succ k => exact absurd ((hag 0 (by omega)).symm.trans hr) q
end
section
/-! Serial orders, purely: what an order reads, and what the sets say of it. A history here: committed C, reads rd ri rv ro (R of them), latest lt, writers Wr, items It. -/
def jla (lt : Nat → Nat → Option Nat) (r : Nat → Nat) : Nat → Nat → Option Nat
  | 0, _ => none
  | i + 1, x => match lt (r i) x with
    | some v => some v
    | none => jla lt r i x
theorem jla_none {lt : Nat → Nat → Option Nat} {r : Nat → Nat} {x : Nat} : ∀ i, jla lt r i x = none ↔ ∀ j, j < i → lt (r j) x = none := by
  intro i
  induction i with
  | zero => simp [jla]
  | succ i ih =>
    rw [jla]
    cases h : lt (r i) x with
    | some v =>
      simp only
      constructor
      · intro q; cases q
      · intro q; have := q i (by omega); rw [h] at this; cases this
    | none =>
      simp only
      rw [ih]
      constructor
      · intro q j hj
        by_cases e : j = i
        · rw [e, h]
        · exact q j (by omega)
      · intro q j hj; exact q j (by omega)
theorem jla_some {lt : Nat → Nat → Option Nat} {r : Nat → Nat} {x v : Nat} : ∀ i, jla lt r i x = some v → ∃ j, j < i ∧ lt (r j) x = some v ∧ ∀ k, j < k → k < i → lt (r k) x = none := by
  intro i
  induction i with
  | zero => intro h; simp [jla] at h
  | succ i ih =>
    rw [jla]
    cases h : lt (r i) x with
    | some w =>
      simp only
      intro q
      cases q
      exact ⟨i, by omega, h, fun k h1 h2 => by omega⟩
    | none =>
      simp only
      intro q
      obtain ⟨j, h1, h2, h3⟩ := ih q
      refine ⟨j, by omega, h2, fun k g1 g2 => ?_⟩
      by_cases e : k = i
      · rw [e, h]
      · exact h3 k g1 (by omega)
theorem jla_at {lt : Nat → Nat → Option Nat} {r : Nat → Nat} {x v : Nat} {i j : Nat} (hj : j < i) (h : lt (r j) x = some v) (hn : ∀ k, j < k → k < i → lt (r k) x = none) : jla lt r i x = some v := by
  cases e : jla lt r i x with
  | none => have := (jla_none i).mp e j hj; rw [h] at this; cases this
  | some w =>
    obtain ⟨k, h1, h2, h3⟩ := jla_some i e
    rcases Nat.lt_trichotomy j k with q | q | q
    · have := hn k q h1; rw [h2] at this; cases this
    · subst q; rw [h] at h2; exact h2.symm
    · have := h3 j q hj; rw [h] at this; cases this
section JSR
variable (C : Nat → Bool) (R : Nat) (rd ri : Nat → Nat) (rv ro : Nat → Option Nat) (lt : Nat → Nat → Option Nat) (Wr It : Nat → Nat)
/-- no read rules out every order by itself -/
def jsnd : Prop := ∀ p, p < R → C (rd p) = true → (∀ o, ro p = some o → rv p = some o) ∧ (ro p = none → ∀ v, rv p = some v → C (Wr v) = true ∧ lt (Wr v) (It v) = some v)
/-- u must stand before t -/
def jbf (t u : Nat) : Prop := ∃ p, p < R ∧ C (rd p) = true ∧ ro p = none ∧ ((rv p = none ∧ u = rd p ∧ t ≠ rd p ∧ C t = true ∧ lt t (ri p) ≠ none) ∨ (∃ v, rv p = some v ∧ t = rd p ∧ u = Wr v))
/-- u reads from w, and t would cut it off -/
def jrb (w t u : Nat) : Prop := ∃ p v, p < R ∧ C (rd p) = true ∧ ro p = none ∧ rv p = some v ∧ u = rd p ∧ w = Wr v ∧ t ≠ rd p ∧ t ≠ w ∧ lt t (ri p) ≠ none
/-- t may follow behind the set D -/
def jmf (t : Nat) (D : Nat → Prop) : Prop := (∀ u, jbf C R rd ri rv ro lt Wr t u → D u) ∧ ∀ w, D w → ∀ u, jrb C R rd ri rv ro lt Wr w t u → D u
/-- an order of all that committed -/
def jpm (n : Nat) (r : Nat → Nat) : Prop := (∀ i, i < n → r i < 8 ∧ C (r i) = true) ∧ (∀ i j, i < n → j < n → r i = r j → i = j) ∧ ∀ t, t < 8 → C t = true → ∃ i, i < n ∧ r i = t
/-- the i-th of the order reads what it read -/
def jrd (r : Nat → Nat) (i : Nat) : Prop := ∀ p, p < R → rd p = r i → match ro p with
  | some o => rv p = some o
  | none => jla lt r i (ri p) = rv p
/-- what the history is known to keep -/
def jhk : Prop := (∀ p, p < R → rd p < 8) ∧ (∀ p v, p < R → rv p = some v → It v = ri p) ∧ (∀ t x v, lt t x = some v → Wr v = t ∧ It v = x) ∧ (∀ p v, p < R → rv p = some v → Wr v = rd p → ro p ≠ none)
variable {C R rd ri rv ro lt Wr It}
theorem jser_of {n : Nat} {r : Nat → Nat} (hk : jhk R rd ri rv ro lt Wr It) (hp : jpm C n r) (hs : jsnd C R rd rv ro lt Wr It) (hm : ∀ i, i < n → jmf C R rd ri rv ro lt Wr (r i) (fun u => ∃ j, j < i ∧ r j = u)) : ∀ i, i < n → jrd R rd ri rv ro lt r i := by
  obtain ⟨k1, k2, k3, k4⟩ := hk
  obtain ⟨p1, p2, p3⟩ := hp
  intro i hi p hpR hpi
  have hC : C (rd p) = true := by rw [hpi]; exact (p1 i hi).2
  obtain ⟨s1, s2⟩ := hs p hpR hC
  cases ho : ro p with
  | some o => exact s1 o ho
  | none =>
    show jla lt r i (ri p) = rv p
    cases hv : rv p with
    | none =>
      rw [jla_none]
      intro j hj
      cases hl : lt (r j) (ri p) with
      | none => rfl
      | some w =>
        have hne : r j ≠ rd p := fun q => by have := p2 j i (by omega) hi (by rw [q, hpi]); omega
        obtain ⟨k, hk1, hk2⟩ := (hm j (by omega)).1 (rd p) ⟨p, hpR, hC, ho, Or.inl ⟨hv, rfl, hne, (p1 j (by omega)).2, by rw [hl]; exact fun q => by cases q⟩⟩
        have := p2 k i (by omega) hi (by rw [hk2, hpi])
        omega
    | some v =>
      obtain ⟨c1, c2⟩ := s2 ho v hv
      rw [k2 p v hpR hv] at c2
      obtain ⟨j, hj1, hj2⟩ := (hm i hi).1 (Wr v) ⟨p, hpR, hC, ho, Or.inr ⟨v, hv, hpi.symm, rfl⟩⟩
      refine jla_at hj1 (by rw [hj2]; exact c2) (fun k h1 h2 => ?_)
      cases hl : lt (r k) (ri p) with
      | none => rfl
      | some w =>
        have hne : r k ≠ rd p := fun q => by have := p2 k i (by omega) hi (by rw [q, hpi]); omega
        have hne2 : r k ≠ Wr v := fun q => by have := p2 k j (by omega) (by omega) (by rw [q, hj2]); omega
        obtain ⟨z, hz1, hz2⟩ := (hm k (by omega)).2 (Wr v) ⟨j, h1, hj2⟩ (rd p) ⟨p, v, hpR, hC, ho, hv, rfl, rfl, hne, hne2, by rw [hl]; exact fun q => by cases q⟩
        have := p2 z i (by omega) hi (by rw [hz2, hpi])
        omega
theorem jser_to {n : Nat} {r : Nat → Nat} (hk : jhk R rd ri rv ro lt Wr It) (hp : jpm C n r) (hr : ∀ i, i < n → jrd R rd ri rv ro lt r i) : jsnd C R rd rv ro lt Wr It ∧ ∀ i, i < n → jmf C R rd ri rv ro lt Wr (r i) (fun u => ∃ j, j < i ∧ r j = u) := by
  obtain ⟨k1, k2, k3, k4⟩ := hk
  obtain ⟨p1, p2, p3⟩ := hp
  -- a read of somebody's at its place in the order
  have rdAt : ∀ p, p < R → C (rd p) = true → ∃ i, i < n ∧ r i = rd p ∧ (∀ o, ro p = some o → rv p = some o) ∧ (ro p = none → jla lt r i (ri p) = rv p) := by
    intro p hpR hC
    obtain ⟨i, hi, he⟩ := p3 (rd p) (k1 p hpR) hC
    have := hr i hi p hpR he.symm
    refine ⟨i, hi, he, fun o ho => ?_, fun ho => ?_⟩
    · rw [ho] at this; exact this
    · rw [ho] at this; exact this
  refine ⟨fun p hpR hC => ?_, fun i hi => ⟨fun u hu => ?_, fun w hw u hu => ?_⟩⟩
  · obtain ⟨i, hi, he, h1, h2⟩ := rdAt p hpR hC
    refine ⟨h1, fun ho v hv => ?_⟩
    have h := h2 ho
    rw [hv] at h
    obtain ⟨j, hj, hl, -⟩ := jla_some i h
    obtain ⟨e1, e2⟩ := k3 _ _ _ hl
    rw [e1, e2]
    exact ⟨(p1 j (by omega)).2, hl⟩
  · obtain ⟨p, hpR, hC, ho, h⟩ := hu
    obtain ⟨k, hk, he, -, h2⟩ := rdAt p hpR hC
    have h2 := h2 ho
    rcases h with ⟨hv, rfl, hne, hCt, hl⟩ | ⟨v, hv, ht, rfl⟩
    · refine Classical.byContradiction (fun hno => ?_)
      have hik : i < k := by
        rcases Nat.lt_trichotomy i k with q | q | q
        · exact q
        · subst q; exact absurd he hne
        · exact absurd ⟨k, q, he⟩ hno
      rw [hv] at h2
      exact hl ((jla_none k).mp h2 i hik)
    · have hki : k = i := p2 k i hk hi (by rw [he, ht])
      subst hki
      rw [hv] at h2
      obtain ⟨j, hj, hl, -⟩ := jla_some k h2
      exact ⟨j, hj, ((k3 _ _ _ hl).1).symm⟩
  · obtain ⟨j, hj, rfl⟩ := hw
    obtain ⟨p, v, hpR, hC, ho, hv, rfl, hw, hne, hne2, hl⟩ := hu
    obtain ⟨k, hk, he, -, h2⟩ := rdAt p hpR hC
    have h2 := h2 ho
    refine Classical.byContradiction (fun hno => ?_)
    have hik : i < k := by
      rcases Nat.lt_trichotomy i k with q | q | q
      · exact q
      · subst q; exact absurd he hne
      · exact absurd ⟨k, q, he⟩ hno
    rw [hv] at h2
    obtain ⟨z, hz, hlz, hn⟩ := jla_some k h2
    have e1 := (k3 _ _ _ hlz).1
    have hzj : z = j := p2 z j (by omega) (by omega) (by rw [← e1, hw])
    subst hzj
    exact hl (hn i (by omega) hik)
end JSR
end
section
/-! Orders by sets: what can follow a set so that an order is ended; the least order, step by step. mf t D: t may follow behind the set D. -/
def jad (D : Nat → Bool) (t : Nat) : Nat → Bool := fun i => D i || decide (i = t)
def jvs (C : Nat → Bool) (mf : Nat → (Nat → Bool) → Prop) : (Nat → Bool) → List Nat → Prop
  | D, [] => ∀ t, t < 8 → C t = true → D t = true
  | D, t :: l => t < 8 ∧ C t = true ∧ D t = false ∧ mf t D ∧ jvs C mf (jad D t) l
def jce (C : Nat → Bool) (mf : Nat → (Nat → Bool) → Prop) (D : Nat → Bool) : Prop := ∃ l, jvs C mf D l
def jnf (C : Nat → Bool) (mf : Nat → (Nat → Bool) → Prop) (D : Nat → Bool) (t : Nat) : Prop := t < 8 ∧ C t = true ∧ D t = false ∧ mf t D ∧ jce C mf (jad D t)
theorem jce_iff {C : Nat → Bool} {mf : Nat → (Nat → Bool) → Prop} {D : Nat → Bool} : jce C mf D ↔ (∀ t, t < 8 → C t = true → D t = true) ∨ ∃ t, jnf C mf D t := by
  constructor
  · rintro ⟨l, h⟩
    cases l with
    | nil => exact Or.inl h
    | cons t l => exact Or.inr ⟨t, h.1, h.2.1, h.2.2.1, h.2.2.2.1, l, h.2.2.2.2⟩
  · rintro (h | ⟨t, h1, h2, h3, h4, l, h5⟩)
    · exact ⟨[], h⟩
    · exact ⟨t :: l, h1, h2, h3, h4, h5⟩
/-- the members so far of a row -/
def jst (r : Nat → Nat) : Nat → Nat → Bool
  | 0, _ => false
  | k + 1, i => jst r k i || decide (i = r k)
theorem jst_iff {r : Nat → Nat} {k i : Nat} : jst r k i = true ↔ ∃ j, j < k ∧ r j = i := by
  induction k with
  | zero => simp [jst]
  | succ k ih =>
    rw [jst, Bool.or_eq_true, ih, decide_eq_true_eq]
    constructor
    · rintro (⟨j, h1, h2⟩ | h)
      · exact ⟨j, by omega, h2⟩
      · exact ⟨k, by omega, h.symm⟩
    · rintro ⟨j, h1, h2⟩
      by_cases e : j = k
      · exact Or.inr (by rw [← h2, e])
      · exact Or.inl ⟨j, by omega, h2⟩
/-- how many committed -/
def jct (C : Nat → Bool) : Nat := ((List.range 8).filter C).length
theorem jpm_len {C : Nat → Bool} {n : Nat} {r : Nat → Nat} (h : jpm C n r) : n = jct C := by
  obtain ⟨h1, h2, h3⟩ := h
  have nd1 : ((List.range n).map r).Nodup := by
    unfold List.Nodup
    rw [List.pairwise_map]
    refine List.Pairwise.imp_of_mem (fun {a b} ha hb hlt e => ?_) List.pairwise_lt_range
    have := h2 a b (List.mem_range.mp ha) (List.mem_range.mp hb) e
    omega
  have nd2 : ((List.range 8).filter C).Nodup := List.Pairwise.filter _ List.nodup_range
  have hp := (List.perm_ext_iff_of_nodup nd1 nd2).mpr (by
    intro a
    rw [List.mem_map, List.mem_filter, List.mem_range]
    constructor
    · rintro ⟨i, hi, rfl⟩
      exact h1 i (List.mem_range.mp hi)
    · rintro ⟨ha, hc⟩
      obtain ⟨i, hi, e⟩ := h3 a ha hc
      exact ⟨i, List.mem_range.mpr hi, e⟩)
  have := hp.length_eq
  simpa [jct] using this
/-- an order that may be: all that committed, each where it may follow -/
def jor (C : Nat → Bool) (mf : Nat → (Nat → Bool) → Prop) (n : Nat) (r : Nat → Nat) : Prop := jpm C n r ∧ ∀ i, i < n → mf (r i) (jst r i)
theorem jst_ext {r r' : Nat → Nat} {k : Nat} (h : ∀ j, j < k → r j = r' j) : jst r k = jst r' k := by
  funext i
  rw [Bool.eq_iff_iff, jst_iff, jst_iff]
  exact ⟨fun ⟨j, h1, h2⟩ => ⟨j, h1, by rw [← h j h1]; exact h2⟩, fun ⟨j, h1, h2⟩ => ⟨j, h1, by rw [h j h1]; exact h2⟩⟩
theorem jst_ad {r : Nat → Nat} {k : Nat} : jst r (k + 1) = jad (jst r k) (r k) := rfl
/-- what is left of an order ends its beginning -/
theorem jor_ce {C : Nat → Bool} {mf : Nat → (Nat → Bool) → Prop} {n : Nat} {r : Nat → Nat} (h : jor C mf n r) : ∀ k i, i + k = n → jce C mf (jst r i) := by
  obtain ⟨⟨h1, h2, h3⟩, h4⟩ := h
  intro k
  induction k with
  | zero =>
    intro i hi
    refine jce_iff.mpr (Or.inl (fun t ht hc => ?_))
    obtain ⟨j, hj, e⟩ := h3 t ht hc
    exact jst_iff.mpr ⟨j, by omega, e⟩
  | succ k ih =>
    intro i hi
    refine jce_iff.mpr (Or.inr ⟨r i, (h1 i (by omega)).1, (h1 i (by omega)).2, ?_, h4 i (by omega), ?_⟩)
    · cases e : jst r i (r i) with
      | false => rfl
      | true =>
        obtain ⟨j, hj, ej⟩ := jst_iff.mp e
        have := h2 j i (by omega) (by omega) ej
        omega
    · have := ih (i + 1) (by omega)
      rwa [jst_ad] at this
theorem jor_nf {C : Nat → Bool} {mf : Nat → (Nat → Bool) → Prop} {n : Nat} {r : Nat → Nat} (h : jor C mf n r) {i : Nat} (hi : i < n) : jnf C mf (jst r i) (r i) := by
  have hc := jor_ce h (n - (i + 1)) (i + 1) (by omega)
  rw [jst_ad] at hc
  refine ⟨(h.1.1 i hi).1, (h.1.1 i hi).2, ?_, h.2 i hi, hc⟩
  cases e : jst r i (r i) with
  | false => rfl
  | true =>
    obtain ⟨j, hj, ej⟩ := jst_iff.mp e
    have := h.1.2.1 j i (by omega) (by omega) ej
    omega
/-- a beginning and what ends it make an order -/
theorem jvs_or {C : Nat → Bool} {mf : Nat → (Nat → Bool) → Prop} : ∀ (l : List Nat) (r : Nat → Nat) (k : Nat), (∀ i, i < k → r i < 8 ∧ C (r i) = true) → (∀ i j, i < k → j < k → r i = r j → i = j) → (∀ i, i < k → mf (r i) (jst r i)) → jvs C mf (jst r k) l → ∃ n r', jor C mf n r' ∧ k ≤ n ∧ n = k + l.length ∧ (∀ i, i < k → r' i = r i) ∧ ∀ t l', l = t :: l' → r' k = t := by
  intro l
  induction l with
  | nil =>
    intro r k h1 h2 h3 h
    exact ⟨k, r, ⟨⟨h1, h2, fun t ht hc => jst_iff.mp (h t ht hc)⟩, h3⟩, Nat.le_refl _, rfl, fun _ _ => rfl, fun t l' q => by cases q⟩
  | cons t l ih =>
    intro r k h1 h2 h3 h
    obtain ⟨g1, g2, g3, g4, g5⟩ := h
    obtain ⟨r1, hr1⟩ : ∃ r1 : Nat → Nat, r1 = fun i => if i = k then t else r i := ⟨_, rfl⟩
    have keep : ∀ i, i < k → r1 i = r i := fun i hi => by rw [hr1]; exact if_neg (by omega)
    have atk : r1 k = t := by rw [hr1]; exact if_pos rfl
    have hst : ∀ i, i ≤ k → jst r1 i = jst r i := fun i hi => jst_ext (fun j hj => keep j (by omega))
    have notin : ∀ i, i < k → r i ≠ t := by
      intro i hi e
      rw [jst_iff.mpr ⟨i, hi, e⟩] at g3
      cases g3
    obtain ⟨n, r', o1, o2, o3, o4, o5⟩ := ih r1 (k + 1) (fun i hi => by
        by_cases e : i = k
        · subst e; rw [atk]; exact ⟨g1, g2⟩
        · rw [keep i (by omega)]; exact h1 i (by omega)) (fun i j hi hj e => by
        by_cases e1 : i = k
        · by_cases e2 : j = k
          · rw [e1, e2]
          · rw [e1, atk, keep j (by omega)] at e
            exact absurd e.symm (notin j (by omega))
        · by_cases e2 : j = k
          · rw [e2, atk, keep i (by omega)] at e
            exact absurd e (notin i (by omega))
          · rw [keep i (by omega), keep j (by omega)] at e
            exact h2 i j (by omega) (by omega) e) (fun i hi => by
        by_cases e : i = k
        · subst e; rw [atk, hst i (Nat.le_refl _)]; exact g4
        · rw [keep i (by omega), hst i (by omega)]; exact h3 i (by omega)) (by rw [jst_ad, atk, hst k (Nat.le_refl _)]; exact g5)
    refine ⟨n, r', o1, by omega, by rw [o3]; simp; omega, fun i hi => by rw [o4 i (by omega), keep i hi], fun t' l' q => ?_⟩
    cases q
    rw [o4 k (by omega), atk]
/-- the least order goes on with the least that can follow -/
theorem jor_least {C : Nat → Bool} {mf : Nat → (Nat → Bool) → Prop} {n : Nat} {r : Nat → Nat} (h : jor C mf n r) (hl : ∀ r', jor C mf n r' → jlx n r r') {i : Nat} (hi : i < n) : jnf C mf (jst r i) (r i) ∧ ∀ u, jnf C mf (jst r i) u → r i ≤ u := by
  refine ⟨jor_nf h hi, fun u hu => ?_⟩
  obtain ⟨u1, u2, u3, u4, l, u5⟩ := hu
  obtain ⟨n', r', o1, -, -, o4, o5⟩ := jvs_or (mf := mf) (C := C) (u :: l) r i (fun j hj => h.1.1 j (by omega)) (fun a b ha hb e => h.1.2.1 a b (by omega) (by omega) e) (fun j hj => h.2 j (by omega)) ⟨u1, u2, u3, u4, u5⟩
  have e : n' = n := (jpm_len o1.1).trans (jpm_len h.1).symm
  subst e
  have := hl r' o1 i hi (fun j hj => (o4 j hj).symm)
  rwa [o5 u l rfl] at this
theorem jce_or {C : Nat → Bool} {mf : Nat → (Nat → Bool) → Prop} (h : jce C mf (fun _ => false)) : ∃ n r, jor C mf n r := by
  obtain ⟨l, h⟩ := h
  obtain ⟨n, r', o1, -⟩ := jvs_or (mf := mf) (C := C) l (fun _ => 0) 0 (fun i hi => by omega) (fun i j hi => by omega) (fun i hi => by omega) h
  exact ⟨n, r', o1⟩
end
section
/-! A search by trying: the rows that are passed, and the first that fits. V: the rows that are looked for, of n places; at place k from lo k up to hi. -/
def jdf (V : (Nat → Nat) → Prop) (d : Nat) (row tr : Nat → Nat) : Prop := ∀ r, V r → (∀ k, k < d → (∀ j, j < k → row j = r j) → row k ≤ r k) ∧ ((∀ j, j < d → row j = r j) → tr d ≤ r d)
theorem jdf_0 {V : (Nat → Nat) → Prop} {row tr : Nat → Nat} (h : ∀ r, V r → tr 0 ≤ r 0) : jdf V 0 row tr := fun r hr => ⟨fun k hk => by omega, fun _ => h r hr⟩
/-- what is tried at place d does not fit -/
theorem jdf_no {V : (Nat → Nat) → Prop} {d : Nat} {row tr tr' : Nat → Nat} (h : jdf V d row tr) (hno : ∀ r, V r → (∀ j, j < d → row j = r j) → r d ≠ tr d) (ht : tr' d = tr d + 1) : jdf V d row tr' := fun r hr => ⟨(h r hr).1, fun q => by
  have h1 := (h r hr).2 q
  have h2 := hno r hr q
  omega⟩
/-- it fits: one place deeper -/
theorem jdf_in {V : (Nat → Nat) → Prop} {d : Nat} {row row' tr tr' : Nat → Nat} (h : jdf V d row tr) (hr : ∀ k, k < d → row' k = row k) (hd : row' d = tr d) (ht : ∀ r, V r → tr' (d + 1) ≤ r (d + 1)) : jdf V (d + 1) row' tr' := fun r hV => ⟨fun k hk hag => by
    by_cases e : k = d
    · subst e
      rw [hd]
      exact (h r hV).2 (fun j hj => by rw [← hr j hj]; exact hag j hj)
    · rw [hr k (by omega)]
      exact (h r hV).1 k (by omega) (fun j hj => by rw [← hr j (by omega)]; exact hag j hj), fun _ => ht r hV⟩
/-- all is tried at place d + 1: back -/
theorem jdf_out {V : (Nat → Nat) → Prop} {d : Nat} {row tr tr' : Nat → Nat} (h : jdf V (d + 1) row tr) (hhi : ∀ r, V r → (∀ j, j < d + 1 → row j = r j) → r (d + 1) < tr (d + 1)) (ht : tr' d = row d + 1) : jdf V d row tr' := fun r hV => ⟨fun k hk hag => (h r hV).1 k (by omega) hag, fun hag => by
  have h1 := (h r hV).1 d (by omega) hag
  rw [ht]
  refine Nat.lt_of_le_of_ne h1 (fun e => ?_)
  have ag : ∀ j, j < d + 1 → row j = r j := fun j hj => by
    by_cases q : j = d
    · rw [q]; exact e
    · exact hag j (by omega)
  have h2 := (h r hV).2 ag
  have h3 := hhi r hV ag
  omega⟩
theorem jdf_none {V : (Nat → Nat) → Prop} {row tr : Nat → Nat} (h : jdf V 0 row tr) (hhi : ∀ r, V r → r 0 < tr 0) : ∀ r, ¬ V r := fun r hV => by
  have h1 := (h r hV).2 (fun j hj => by omega)
  have h2 := hhi r hV
  omega
theorem jdf_least {V : (Nat → Nat) → Prop} {n : Nat} {row tr : Nat → Nat} (h : jdf V n row tr) : ∀ r, V r → jlx n row r := fun r hV k hk hag => (h r hV).1 k hk hag
/-- a number that falls with every step of such a search -/
def jmu (n : Nat) (tr : Nat → Nat) : Nat → Nat
  | 0 => (10 - tr 0) * 20 ^ n
  | d + 1 => jmu n tr d + (10 - tr (d + 1)) * 20 ^ (n - (d + 1))
theorem jmu_ext {n : Nat} {tr tr' : Nat → Nat} : ∀ d, (∀ k, k ≤ d → tr k = tr' k) → jmu n tr d = jmu n tr' d := by
  intro d
  induction d with
  | zero => intro h; simp [jmu, h 0 (Nat.le_refl _)]
  | succ d ih => intro h; simp [jmu, ih (fun k hk => h k (by omega)), h (d + 1) (Nat.le_refl _)]
theorem jmu_no {n d : Nat} {tr tr' : Nat → Nat} (hk : ∀ k, k < d → tr' k = tr k) (hd : tr' d = tr d + 1) (h9 : tr d < 10) : jmu n tr' d < jmu n tr d := by
  cases d with
  | zero =>
    simp only [jmu]
    exact Nat.mul_lt_mul_of_pos_right (by omega) (Nat.pow_pos (by omega))
  | succ d =>
    simp only [jmu]
    rw [jmu_ext (tr := tr') (tr' := tr) d (fun k h => hk k (by omega))]
    have := Nat.mul_lt_mul_of_pos_right (show 10 - tr' (d + 1) < 10 - tr (d + 1) by omega) (Nat.pow_pos (n := n - (d + 1)) (show 0 < 20 by omega))
    omega
theorem jmu_in {n d : Nat} {tr tr' : Nat → Nat} (hk : ∀ k, k < d → tr' k = tr k) (hd : tr' d = tr d + 1) (h9 : tr d < 10) (hn : d + 1 ≤ n) : jmu n tr' (d + 1) < jmu n tr d := by
  have e : 20 ^ (n - d) = 20 * 20 ^ (n - (d + 1)) := by
    rw [show n - d = (n - (d + 1)) + 1 by omega, Nat.pow_succ, Nat.mul_comm]
  have hp : 0 < 20 ^ (n - (d + 1)) := Nat.pow_pos (by omega)
  have key : (10 - tr' d) * 20 ^ (n - d) + (10 - tr' (d + 1)) * 20 ^ (n - (d + 1)) < (10 - tr d) * 20 ^ (n - d) := by
    rw [show 10 - tr d = (10 - tr' d) + 1 by omega, Nat.add_mul, Nat.one_mul]
    refine Nat.add_lt_add_left ?_ _
    rw [e]
    exact Nat.mul_lt_mul_of_pos_right (by omega) hp
  cases d with
  | zero =>
    simp only [jmu]
    simpa using key
  | succ d =>
    simp only [jmu]
    rw [jmu_ext (tr := tr') (tr' := tr) d (fun k h => hk k (by omega))]
    omega
theorem jmu_out {n d : Nat} {tr tr' : Nat → Nat} (hk : ∀ k, k ≤ d → tr' k = tr k) (h9 : tr (d + 1) < 10) : jmu n tr' d < jmu n tr (d + 1) := by
  simp only [jmu]
  rw [jmu_ext (tr := tr') (tr' := tr) d hk]
  have : 0 < (10 - tr (d + 1)) * 20 ^ (n - (d + 1)) := Nat.mul_pos (by omega) (Nat.pow_pos (by omega))
  omega
end
section
/-! Leaves: the small static methods, filling, counting bits. -/
set_option maxRecDepth 100000 in
set_option maxHeartbeats 4000000 in
theorem c_J_only {l : Launch} {Θ : jxT} (hI : jxI Θ) {t : Nat} (ht : t < 8) (σ : jxM) : jxMet l y_J_only b_J_only 1 (some FieldType.int) (jrm 1) Θ [.inl (nI t)] σ (jan (bI (fun i => decide (i = t))) σ) := by
  refine jxMet.of (own := "HistoryJudge") hI (by decide) rfl (Nat.le_of_ble_eq_true rfl) (fun Γ X => ?_)
  show jxW Γ Θ (jan (bI (fun i => decide (i = t))) σ) 0 [some (.inl (nI t))] [] σ
  refine j_iconst X (v := (nI 1)) (q := 1) d_J_only_0 (by decide +kernel) rfl ?_
  refine j_iload_n X (q := 2) d_J_only_1 rfl rfl ?_
  refine j_ishl X (q := 3) d_J_only_2 rfl ?_
  refine j_iret X d_J_only_3 ?_
  exact ⟨by rw [← bI_one ht]; rfl, rfl⟩
set_option maxRecDepth 100000 in
set_option maxHeartbeats 4000000 in
theorem c_J_has {l : Launch} {Θ : jxT} (hI : jxI Θ) (S : Nat → Bool) {t : Nat} (ht : t < 8) (σ : jxM) : jxMet l y_J_has b_J_has 2 (some FieldType.boolean) (jrm 2) Θ [.inl (bI S), .inl (nI t)] σ (jan (jB (S t)) σ) := by
  refine jxMet.of (own := "HistoryJudge") hI (by decide) rfl (Nat.le_of_ble_eq_true rfl) (fun Γ X => ?_)
  show jxW Γ Θ (jan (jB (S t)) σ) 0 [some (.inl (bI S)), some (.inl (nI t))] [] σ
  refine j_iload_n X (q := 1) d_J_has_0 rfl rfl ?_
  refine j_iload_n X (q := 2) d_J_has_1 rfl rfl ?_
  refine j_callS X (n := 1) d_J_has_2 (c_J_only hI ht σ) wl226 wl207 wl36 wl208 (by decide +kernel) ⟨rfl, rfl⟩ (by decide) rfl rfl (Nat.le_of_ble_eq_true rfl) rfl (q := 5) rfl (fun r2 τ2 e2 => ?_)
  obtain ⟨rfl, rfl⟩ := e2
  refine j_iand X (q := 6) d_J_has_5 rfl ?_
  refine j_if_eq X (tgt := 13) (q := 9) d_J_has_6 (by decide) rfl (fun h6 => ?_) (fun h6 => ?_)
  · have _b6 := True.intro
    have e6 := (bI_has ht).mp h6
    refine j_iconst X (v := (nI 0)) (q := 14) d_J_has_13 (by decide +kernel) rfl ?_
    refine j_zret X d_J_has_14 (by decide +kernel) ?_
    exact ⟨by rw [e6]; rfl, rfl⟩
  · have _b6 := True.intro
    have e6 : S t = true := by
      cases e : S t with
      | true => rfl
      | false => exact absurd ((bI_has ht).mpr e) h6
    refine j_iconst X (v := (nI 1)) (q := 10) d_J_has_9 (by decide +kernel) rfl ?_
    refine j_goto X (tgt := 14) d_J_has_10 (by decide) ?_
    refine j_zret X d_J_has_14 (by decide +kernel) ?_
    exact ⟨by rw [e6]; rfl, rfl⟩
set_option maxRecDepth 100000 in
set_option maxHeartbeats 4000000 in
theorem c_J_isTransaction {l : Launch} {Θ : jxT} (hI : jxI Θ) (x : Int32) (σ : jxM) : jxMet l y_J_isTransaction b_J_isTransaction 1 (some FieldType.boolean) (jrm 1) Θ [.inl x] σ (jan (jB (jin x 8)) σ) := by
  refine jxMet.of (own := "HistoryJudge") hI (by decide) rfl (Nat.le_of_ble_eq_true rfl) (fun Γ X => ?_)
  show jxW Γ Θ (jan (jB (jin x 8)) σ) 0 [some (.inl x)] [] σ
  refine j_iload_n X (q := 1) d_J_isTransaction_0 rfl rfl ?_
  refine j_if_lt X (tgt := 14) (q := 4) d_J_isTransaction_1 (by decide) rfl (fun h1 => ?_) (fun h1 => ?_)
  · have _b1 := True.intro
    have e1 := jin_neg (n := 8) h1
    refine j_iconst X (v := (nI 0)) (q := 15) d_J_isTransaction_14 (by decide +kernel) rfl ?_
    refine j_zret X d_J_isTransaction_15 (by decide +kernel) ?_
    exact ⟨by rw [e1]; rfl, rfl⟩
  · have _b1 := True.intro
    refine j_iload_n X (q := 5) d_J_isTransaction_4 rfl rfl ?_
    refine j_bipush X (v := (nI 8)) (q := 7) d_J_isTransaction_5 (by decide +kernel) rfl ?_
    refine j_icmp_ge X (tgt := 14) (q := 10) d_J_isTransaction_7 (by decide) rfl (fun h7 => ?_) (fun h7 => ?_)
    · have _b7 := True.intro
      have e1 := jin_big (n := 8) (by decide) h7
      refine j_iconst X (v := (nI 0)) (q := 15) d_J_isTransaction_14 (by decide +kernel) rfl ?_
      refine j_zret X d_J_isTransaction_15 (by decide +kernel) ?_
      exact ⟨by rw [e1]; rfl, rfl⟩
    · have _b7 := True.intro
      have e1 := jin_yes (n := 8) (by decide) h1 h7
      refine j_iconst X (v := (nI 1)) (q := 11) d_J_isTransaction_10 (by decide +kernel) rfl ?_
      refine j_goto X (tgt := 15) d_J_isTransaction_11 (by decide) ?_
      refine j_zret X d_J_isTransaction_15 (by decide +kernel) ?_
      exact ⟨by rw [e1]; rfl, rfl⟩
set_option maxRecDepth 100000 in
set_option maxHeartbeats 4000000 in
theorem c_J_isItem {l : Launch} {Θ : jxT} (hI : jxI Θ) (x : Int32) (σ : jxM) : jxMet l y_J_isItem b_J_isItem 1 (some FieldType.boolean) (jrm 1) Θ [.inl x] σ (jan (jB (jin x 6)) σ) := by
  refine jxMet.of (own := "HistoryJudge") hI (by decide) rfl (Nat.le_of_ble_eq_true rfl) (fun Γ X => ?_)
  show jxW Γ Θ (jan (jB (jin x 6)) σ) 0 [some (.inl x)] [] σ
  refine j_iload_n X (q := 1) d_J_isItem_0 rfl rfl ?_
  refine j_if_lt X (tgt := 14) (q := 4) d_J_isItem_1 (by decide) rfl (fun h1 => ?_) (fun h1 => ?_)
  · have _b1 := True.intro
    have e1 := jin_neg (n := 6) h1
    refine j_iconst X (v := (nI 0)) (q := 15) d_J_isItem_14 (by decide +kernel) rfl ?_
    refine j_zret X d_J_isItem_15 (by decide +kernel) ?_
    exact ⟨by rw [e1]; rfl, rfl⟩
  · have _b1 := True.intro
    refine j_iload_n X (q := 5) d_J_isItem_4 rfl rfl ?_
    refine j_bipush X (v := (nI 6)) (q := 7) d_J_isItem_5 (by decide +kernel) rfl ?_
    refine j_icmp_ge X (tgt := 14) (q := 10) d_J_isItem_7 (by decide) rfl (fun h7 => ?_) (fun h7 => ?_)
    · have _b7 := True.intro
      have e1 := jin_big (n := 6) (by decide) h7
      refine j_iconst X (v := (nI 0)) (q := 15) d_J_isItem_14 (by decide +kernel) rfl ?_
      refine j_zret X d_J_isItem_15 (by decide +kernel) ?_
      exact ⟨by rw [e1]; rfl, rfl⟩
    · have _b7 := True.intro
      have e1 := jin_yes (n := 6) (by decide) h1 h7
      refine j_iconst X (v := (nI 1)) (q := 11) d_J_isItem_10 (by decide +kernel) rfl ?_
      refine j_goto X (tgt := 15) d_J_isItem_11 (by decide) ?_
      refine j_zret X d_J_isItem_15 (by decide +kernel) ?_
      exact ⟨by rw [e1]; rfl, rfl⟩
set_option maxRecDepth 100000 in
set_option maxHeartbeats 4000000 in
theorem c_M_isOne {l : Launch} {Θ : jxT} (hI : jxI Θ) (x : Int32) (σ : jxM) : jxMet l y_M_isOne b_M_isOne 1 (some FieldType.boolean) (jrm 1) Θ [.inl x] σ (jan (jB (jin x 8)) σ) := by
  refine jxMet.of (own := "HistoryJudgeModel") hI (by decide) rfl (Nat.le_of_ble_eq_true rfl) (fun Γ X => ?_)
  show jxW Γ Θ (jan (jB (jin x 8)) σ) 0 [some (.inl x)] [] σ
  refine j_iload_n X (q := 1) d_M_isOne_0 rfl rfl ?_
  refine j_if_lt X (tgt := 14) (q := 4) d_M_isOne_1 (by decide) rfl (fun h1 => ?_) (fun h1 => ?_)
  · have _b1 := True.intro
    have e1 := jin_neg (n := 8) h1
    refine j_iconst X (v := (nI 0)) (q := 15) d_M_isOne_14 (by decide +kernel) rfl ?_
    refine j_zret X d_M_isOne_15 (by decide +kernel) ?_
    exact ⟨by rw [e1]; rfl, rfl⟩
  · have _b1 := True.intro
    refine j_iload_n X (q := 5) d_M_isOne_4 rfl rfl ?_
    refine j_bipush X (v := (nI 8)) (q := 7) d_M_isOne_5 (by decide +kernel) rfl ?_
    refine j_icmp_ge X (tgt := 14) (q := 10) d_M_isOne_7 (by decide) rfl (fun h7 => ?_) (fun h7 => ?_)
    · have _b7 := True.intro
      have e1 := jin_big (n := 8) (by decide) h7
      refine j_iconst X (v := (nI 0)) (q := 15) d_M_isOne_14 (by decide +kernel) rfl ?_
      refine j_zret X d_M_isOne_15 (by decide +kernel) ?_
      exact ⟨by rw [e1]; rfl, rfl⟩
    · have _b7 := True.intro
      have e1 := jin_yes (n := 8) (by decide) h1 h7
      refine j_iconst X (v := (nI 1)) (q := 11) d_M_isOne_10 (by decide +kernel) rfl ?_
      refine j_goto X (tgt := 15) d_M_isOne_11 (by decide) ?_
      refine j_zret X d_M_isOne_15 (by decide +kernel) ?_
      exact ⟨by rw [e1]; rfl, rfl⟩
set_option maxRecDepth 100000 in
set_option maxHeartbeats 4000000 in
theorem c_M_isItem {l : Launch} {Θ : jxT} (hI : jxI Θ) (x : Int32) (σ : jxM) : jxMet l y_M_isItem b_M_isItem 1 (some FieldType.boolean) (jrm 1) Θ [.inl x] σ (jan (jB (jin x 6)) σ) := by
  refine jxMet.of (own := "HistoryJudgeModel") hI (by decide) rfl (Nat.le_of_ble_eq_true rfl) (fun Γ X => ?_)
  show jxW Γ Θ (jan (jB (jin x 6)) σ) 0 [some (.inl x)] [] σ
  refine j_iload_n X (q := 1) d_M_isItem_0 rfl rfl ?_
  refine j_if_lt X (tgt := 14) (q := 4) d_M_isItem_1 (by decide) rfl (fun h1 => ?_) (fun h1 => ?_)
  · have _b1 := True.intro
    have e1 := jin_neg (n := 6) h1
    refine j_iconst X (v := (nI 0)) (q := 15) d_M_isItem_14 (by decide +kernel) rfl ?_
    refine j_zret X d_M_isItem_15 (by decide +kernel) ?_
    exact ⟨by rw [e1]; rfl, rfl⟩
  · have _b1 := True.intro
    refine j_iload_n X (q := 5) d_M_isItem_4 rfl rfl ?_
    refine j_bipush X (v := (nI 6)) (q := 7) d_M_isItem_5 (by decide +kernel) rfl ?_
    refine j_icmp_ge X (tgt := 14) (q := 10) d_M_isItem_7 (by decide) rfl (fun h7 => ?_) (fun h7 => ?_)
    · have _b7 := True.intro
      have e1 := jin_big (n := 6) (by decide) h7
      refine j_iconst X (v := (nI 0)) (q := 15) d_M_isItem_14 (by decide +kernel) rfl ?_
      refine j_zret X d_M_isItem_15 (by decide +kernel) ?_
      exact ⟨by rw [e1]; rfl, rfl⟩
    · have _b7 := True.intro
      have e1 := jin_yes (n := 6) (by decide) h1 h7
      refine j_iconst X (v := (nI 1)) (q := 11) d_M_isItem_10 (by decide +kernel) rfl ?_
      refine j_goto X (tgt := 15) d_M_isItem_11 (by decide) ?_
      refine j_zret X d_M_isItem_15 (by decide +kernel) ?_
      exact ⟨by rw [e1]; rfl, rfl⟩
set_option maxRecDepth 100000 in
set_option maxHeartbeats 4000000 in
theorem c_J_least {l : Launch} {Θ : jxT} (hI : jxI Θ) (S : Nat → Bool) (σ : jxM) : jxMet l y_J_least b_J_least 2 (some FieldType.int) (jrm 3) Θ [.inl (bI S)] σ (fun r σ' => ∃ k, k < 8 ∧ r = some (.inl (nI k)) ∧ σ = σ' ∧ ((∃ t, t < 8 ∧ S t = true) → S k = true ∧ ∀ u, u < k → S u = false)) := by
  refine jxMet.of (own := "HistoryJudge") hI (by decide) rfl (Nat.le_of_ble_eq_true rfl) (fun Γ X => ?_)
  show jxW Γ Θ (fun r σ' => ∃ k, k < 8 ∧ r = some (.inl (nI k)) ∧ σ = σ' ∧ ((∃ t, t < 8 ∧ S t = true) → S k = true ∧ ∀ u, u < k → S u = false)) 0 [some (.inl (bI S)), none] [] σ
  have K : ∀ (N : Nat) (t : Nat), 8 - t < N → t ≤ 7 → (∀ u, u < t → S u = false) → jxW Γ Θ (fun r σ' => ∃ k, k < 8 ∧ r = some (.inl (nI k)) ∧ σ = σ' ∧ ((∃ t, t < 8 ∧ S t = true) → S k = true ∧ ∀ u, u < k → S u = false)) 2 [some (.inl (bI S)), some (.inl (nI t))] [] σ := by
    intro N
    induction N with
    | zero => intro t hn; exact absurd hn (Nat.not_lt_zero _)
    | succ N ih =>
      intro t hn ht hlow
      refine j_iload_n X (q := 3) d_J_least_2 rfl rfl ?_
      refine j_bipush X (v := (nI 7)) (q := 5) d_J_least_3 (by decide +kernel) rfl ?_
      refine j_ncmp_ge X (tgt := 22) (q := 8) d_J_least_5 (by decide) rfl (by omega) (by omega) (fun h5 => ?_) (fun h5 => ?_)
      · have _b5 := True.intro
        refine j_iload_n X (q := 23) d_J_least_22 rfl rfl ?_
        refine j_iret X d_J_least_23 ?_
        refine ⟨t, by omega, rfl, rfl, fun hex => ⟨?_, hlow⟩⟩
        first
          | exact h13
          | (obtain ⟨u, hu, hSu⟩ := hex
             have : u = t := by
               by_cases q : u < t
               · rw [hlow u q] at hSu; cases hSu
               · omega
             rw [← this]; exact hSu)
      · have _b5 := True.intro
        refine j_iload_n X (q := 9) d_J_least_8 rfl rfl ?_
        refine j_iload_n X (q := 10) d_J_least_9 rfl rfl ?_
        refine j_callS X (n := 2) d_J_least_10 (c_J_has hI S (t := t) (by omega) σ) wl223 wl224 wl36 wl225 (by decide +kernel) ⟨rfl, rfl⟩ (by decide) rfl rfl (Nat.le_of_ble_eq_true rfl) rfl (q := 13) rfl (fun r10 τ10 e10 => ?_)
        obtain ⟨rfl, rfl⟩ := e10
        refine j_bif_ne X (tgt := 22) (q := 16) d_J_least_13 (by decide) rfl (fun h13 => ?_) (fun h13 => ?_)
        · have _b13 := True.intro
          refine j_iload_n X (q := 23) d_J_least_22 rfl rfl ?_
          refine j_iret X d_J_least_23 ?_
          refine ⟨t, by omega, rfl, rfl, fun hex => ⟨?_, hlow⟩⟩
          first
            | exact h13
            | (obtain ⟨u, hu, hSu⟩ := hex
               have : u = t := by
                 by_cases q : u < t
                 · rw [hlow u q] at hSu; cases hSu
                 · omega
               rw [← this]; exact hSu)
        · have _b13 := True.intro
          refine j_iinc X (q := 19) d_J_least_16 rfl (j_inc1 _) rfl ?_
          refine j_goto X (tgt := 2) d_J_least_19 (by decide) ?_
          exact ih (t + 1) (by omega) (by omega) (fun u hu => by
            by_cases q : u = t
            · rw [q]; exact h13
            · exact hlow u (by omega))
  refine j_iconst X (v := (nI 0)) (q := 1) d_J_least_0 (by decide +kernel) rfl ?_
  refine j_istore_n X (j := 1) (q := 2) d_J_least_1 rfl (Nat.le_of_ble_eq_true rfl) rfl ?_
  exact K 9 0 (by omega) (by omega) (fun u hu => by omega)
set_option maxRecDepth 100000 in
set_option maxHeartbeats 4000000 in
theorem c_A_fill {l : Launch} {Θ : jxT} (hI : jxI Θ) {g r n : Nat} (hk : jxk g = .inr (.inl (0, n))) (hn0 : n < 2 ^ 31) (hp : Θ.2.2.2 g r) (x : Int32) (σ : jxM) : jxMet l y_A_fill b_A_fill 4 none (jrm 1) Θ [.inr (g, r), .inl x] σ (jvo (jfl σ g r n x)) := by
  refine jxMet.of (own := "java/util/Arrays") hI (by decide) rfl (Nat.le_of_ble_eq_true rfl) (fun Γ X => ?_)
  show jxW Γ Θ (jvo (jfl σ g r n x)) 0 [some (.inr (g, r)), some (.inl x), none, none] [] σ
  have K : ∀ (N : Nat) (i : Nat), n - i < N → i ≤ n → jxW Γ Θ (jvo (jfl σ g r n x)) 5 [some (.inr (g, r)), some (.inl x), some (.inl (nI i)), some (.inl (nI n))] [] (jfl σ g r i x) := by
    intro N
    induction N with
    | zero => intro i hn; exact absurd hn (Nat.not_lt_zero _)
    | succ N ih =>
      intro i hn hi
      refine j_iload_n X (q := 6) d_A_fill_5 rfl rfl ?_
      refine j_iload_n X (q := 7) d_A_fill_6 rfl rfl ?_
      refine j_ncmp_ge X (tgt := 20) (q := 10) d_A_fill_7 (by decide) rfl (by omega) (by omega) (fun h7 => ?_) (fun h7 => ?_)
      · have _b7 := True.intro
        refine j_vret X d_A_fill_20 ?_
        have e : i = n := by omega
        subst e
        exact ⟨rfl, rfl⟩
      · have _b7 := True.intro
        refine j_aload_n X (q := 11) d_A_fill_10 rfl rfl ?_
        refine j_iload_n X (q := 12) d_A_fill_11 rfl rfl ?_
        refine j_iload_n X (q := 13) d_A_fill_12 rfl rfl ?_
        refine j_iast X (q := 14) d_A_fill_13 hk hn0 rfl (by omega) hp rfl ?_
        refine j_iinc X (q := 17) d_A_fill_14 rfl (j_inc1 _) rfl ?_
        refine j_goto X (tgt := 5) d_A_fill_17 (by decide) ?_
        refine jxW.cast rfl rfl (jfl_succ σ g r i x) ?_
        exact ih (i + 1) (by omega) (by omega)
  refine j_iconst X (v := (nI 0)) (q := 1) d_A_fill_0 (by decide +kernel) rfl ?_
  refine j_istore_n X (j := 2) (q := 2) d_A_fill_1 rfl (Nat.le_of_ble_eq_true rfl) rfl ?_
  refine j_aload_n X (q := 3) d_A_fill_2 rfl rfl ?_
  refine j_alen X (q := 4) d_A_fill_3 hk hp rfl ?_
  refine j_istore_n X (j := 3) (q := 5) d_A_fill_4 rfl (Nat.le_of_ble_eq_true rfl) rfl ?_
  refine jxW.cast rfl rfl (jfl_0 σ g r x).symm ?_
  exact K (n + 1) 0 (by omega) (by omega)
def jbc (x : Int32) : Int32 :=
  let a := x - ((x.toUInt32 >>> ((nI 1).toUInt32 &&& Int32.toUInt32 31)).toInt32 &&& 1431655765)
  let b := (a &&& 858993459) + ((a.toUInt32 >>> ((nI 2).toUInt32 &&& Int32.toUInt32 31)).toInt32 &&& 858993459)
  let c := (b + (b.toUInt32 >>> ((nI 4).toUInt32 &&& Int32.toUInt32 31)).toInt32) &&& 252645135
  let d := c + (c.toUInt32 >>> ((nI 8).toUInt32 &&& Int32.toUInt32 31)).toInt32
  (d + (d.toUInt32 >>> ((nI 16).toUInt32 &&& Int32.toUInt32 31)).toInt32) &&& nI 63
set_option maxRecDepth 100000 in
set_option maxHeartbeats 4000000 in
theorem c_I_bitCount {l : Launch} {Θ : jxT} (hI : jxI Θ) (x : Int32) (σ : jxM) : jxMet l y_I_bitCount b_I_bitCount 1 (some FieldType.int) (jrm 1) Θ [.inl x] σ (jan (jbc x) σ) := by
  refine jxMet.of (own := "java/lang/Integer") hI (by decide) rfl (Nat.le_of_ble_eq_true rfl) (fun Γ X => ?_)
  show jxW Γ Θ (jan (jbc x) σ) 0 [some (.inl x)] [] σ
  refine j_iload_n X (q := 1) d_I_bitCount_0 rfl rfl ?_
  refine j_iload_n X (q := 2) d_I_bitCount_1 rfl rfl ?_
  refine j_iconst X (v := (nI 1)) (q := 3) d_I_bitCount_2 (by decide +kernel) rfl ?_
  refine j_iushr X (q := 4) d_I_bitCount_3 rfl rfl ?_
  refine j_ldcw X (q := 7) d_I_bitCount_4 wl341 rfl ?_
  refine j_iand X (q := 8) d_I_bitCount_7 rfl ?_
  refine j_isub X (q := 9) d_I_bitCount_8 rfl ?_
  refine j_istore_n X (j := 0) (q := 10) d_I_bitCount_9 rfl (Nat.le_of_ble_eq_true rfl) rfl ?_
  refine j_iload_n X (q := 11) d_I_bitCount_10 rfl rfl ?_
  refine j_ldcw X (q := 14) d_I_bitCount_11 wl342 rfl ?_
  refine j_iand X (q := 15) d_I_bitCount_14 rfl ?_
  refine j_iload_n X (q := 16) d_I_bitCount_15 rfl rfl ?_
  refine j_iconst X (v := (nI 2)) (q := 17) d_I_bitCount_16 (by decide +kernel) rfl ?_
  refine j_iushr X (q := 18) d_I_bitCount_17 rfl rfl ?_
  refine j_ldcw X (q := 21) d_I_bitCount_18 wl342 rfl ?_
  refine j_iand X (q := 22) d_I_bitCount_21 rfl ?_
  refine j_iadd X (q := 23) d_I_bitCount_22 rfl ?_
  refine j_istore_n X (j := 0) (q := 24) d_I_bitCount_23 rfl (Nat.le_of_ble_eq_true rfl) rfl ?_
  refine j_iload_n X (q := 25) d_I_bitCount_24 rfl rfl ?_
  refine j_iload_n X (q := 26) d_I_bitCount_25 rfl rfl ?_
  refine j_iconst X (v := (nI 4)) (q := 27) d_I_bitCount_26 (by decide +kernel) rfl ?_
  refine j_iushr X (q := 28) d_I_bitCount_27 rfl rfl ?_
  refine j_iadd X (q := 29) d_I_bitCount_28 rfl ?_
  refine j_ldcw X (q := 32) d_I_bitCount_29 wl343 rfl ?_
  refine j_iand X (q := 33) d_I_bitCount_32 rfl ?_
  refine j_istore_n X (j := 0) (q := 34) d_I_bitCount_33 rfl (Nat.le_of_ble_eq_true rfl) rfl ?_
  refine j_iload_n X (q := 35) d_I_bitCount_34 rfl rfl ?_
  refine j_iload_n X (q := 36) d_I_bitCount_35 rfl rfl ?_
  refine j_bipush X (v := (nI 8)) (q := 38) d_I_bitCount_36 (by decide +kernel) rfl ?_
  refine j_iushr X (q := 39) d_I_bitCount_38 rfl rfl ?_
  refine j_iadd X (q := 40) d_I_bitCount_39 rfl ?_
  refine j_istore_n X (j := 0) (q := 41) d_I_bitCount_40 rfl (Nat.le_of_ble_eq_true rfl) rfl ?_
  refine j_iload_n X (q := 42) d_I_bitCount_41 rfl rfl ?_
  refine j_iload_n X (q := 43) d_I_bitCount_42 rfl rfl ?_
  refine j_bipush X (v := (nI 16)) (q := 45) d_I_bitCount_43 (by decide +kernel) rfl ?_
  refine j_iushr X (q := 46) d_I_bitCount_45 rfl rfl ?_
  refine j_iadd X (q := 47) d_I_bitCount_46 rfl ?_
  refine j_istore_n X (j := 0) (q := 48) d_I_bitCount_47 rfl (Nat.le_of_ble_eq_true rfl) rfl ?_
  refine j_iload_n X (q := 49) d_I_bitCount_48 rfl rfl ?_
  refine j_bipush X (v := (nI 63)) (q := 51) d_I_bitCount_49 (by decide +kernel) rfl ?_
  refine j_iand X (q := 52) d_I_bitCount_51 rfl ?_
  refine j_iret X d_I_bitCount_52 ?_
  exact ⟨rfl, rfl⟩
end
section
/-! A history: what was written, read and ended; what the class's cells hold of it. -/
noncomputable def jd (p : Prop) : Bool := @decide p (Classical.propDecidable p)
theorem jd_iff {p : Prop} : jd p = true ↔ p := by unfold jd; exact @decide_eq_true_iff p (Classical.propDecidable p)
theorem jd_no {p : Prop} : jd p = false ↔ ¬ p := by unfold jd; exact @decide_eq_false_iff_not p (Classical.propDecidable p)
theorem jd_ext {p q : Prop} (h : p ↔ q) : jd p = jd q := by rw [Bool.eq_iff_iff, jd_iff, jd_iff]; exact h
/-- states, versions, their writers and items, reads: reader, item, version, own version; latest by transaction and item; how many stand in an item's order, and which -/
abbrev jH : Type := (Nat → Nat) × Nat × (Nat → Nat) × (Nat → Nat) × Nat × (Nat → Nat) × (Nat → Nat) × (Nat → Option Nat) × (Nat → Option Nat) × (Nat → Nat → Option Nat) × (Nat → Nat) × (Nat → Nat → Nat)
abbrev hyS (h : jH) : Nat → Nat := h.1
abbrev hyV (h : jH) : Nat := h.2.1
abbrev hyW (h : jH) : Nat → Nat := h.2.2.1
abbrev hyI (h : jH) : Nat → Nat := h.2.2.2.1
abbrev hyR (h : jH) : Nat := h.2.2.2.2.1
abbrev hyrd (h : jH) : Nat → Nat := h.2.2.2.2.2.1
abbrev hyri (h : jH) : Nat → Nat := h.2.2.2.2.2.2.1
abbrev hyrv (h : jH) : Nat → Option Nat := h.2.2.2.2.2.2.2.1
abbrev hyro (h : jH) : Nat → Option Nat := h.2.2.2.2.2.2.2.2.1
abbrev hylt (h : jH) : Nat → Nat → Option Nat := h.2.2.2.2.2.2.2.2.2.1
abbrev hyon (h : jH) : Nat → Nat := h.2.2.2.2.2.2.2.2.2.2.1
abbrev hyod (h : jH) : Nat → Nat → Nat := h.2.2.2.2.2.2.2.2.2.2.2
/-- the class's cells hold the history -/
def jHs (h : jH) (σ : jxM) : Prop :=
  σ 1 0 3 = nI (hyV h) ∧ σ 1 0 8 = nI (hyR h) ∧ (∀ t, t < 8 → σ 2 0 t = nI (hyS h t)) ∧ (∀ v, v < hyV h → σ 3 0 v = nI (hyW h v) ∧ σ 4 0 v = nI (hyI h v)) ∧
  (∀ r, r < hyR h → σ 5 0 r = nI (hyrd h r) ∧ σ 6 0 r = nI (hyri h r) ∧ σ 7 0 r = vI (hyrv h r) ∧ σ 8 0 r = vI (hyro h r)) ∧
  (∀ t x, t < 8 → x < 6 → σ 10 t x = vI (hylt h t x)) ∧ (∀ x, x < 6 → σ 13 0 x = nI (hyon h x)) ∧ (∀ x i, x < 6 → i < hyon h x → σ 12 x i = nI (hyod h x i))
/-- what a history keeps -/
def jHw (h : jH) : Prop :=
  hyV h ≤ 40 ∧ hyR h ≤ 60 ∧ (∀ t, t < 8 → hyS h t < 4) ∧ (∀ v, v < hyV h → hyW h v < 8 ∧ hyI h v < 6) ∧
  (∀ r, r < hyR h → hyrd h r < 8 ∧ hyri h r < 6 ∧ (∀ v, hyrv h r = some v → v < hyV h ∧ hyI h v = hyri h r) ∧ (∀ v, hyro h r = some v → v < hyV h) ∧ (∀ v, hyrv h r = some v → hyW h v = hyrd h r → hyro h r ≠ none)) ∧
  (∀ t x v, t < 8 → x < 6 → hylt h t x = some v → v < hyV h ∧ hyW h v = t ∧ hyI h v = x) ∧
  (∀ x, x < 6 → hyon h x ≤ 8 ∧ (∀ i, i < hyon h x → hyod h x i < hyV h ∧ hyI h (hyod h x i) = x ∧ hyS h (hyW h (hyod h x i)) = 2 ∧ hylt h (hyW h (hyod h x i)) x = some (hyod h x i)) ∧ ∀ i j, i < hyon h x → j < hyon h x → hyod h x i = hyod h x j → i = j)
section JHS
variable {h : jH} {σ : jxM}
theorem jHs_V (k : jHs h σ) : σ 1 0 3 = nI (hyV h) := k.1
theorem jHs_R (k : jHs h σ) : σ 1 0 8 = nI (hyR h) := k.2.1
theorem jHs_S (k : jHs h σ) {t : Nat} (ht : t < 8) : σ 2 0 t = nI (hyS h t) := k.2.2.1 t ht
theorem jHs_W (k : jHs h σ) {v : Nat} (hv : v < hyV h) : σ 3 0 v = nI (hyW h v) := (k.2.2.2.1 v hv).1
theorem jHs_I (k : jHs h σ) {v : Nat} (hv : v < hyV h) : σ 4 0 v = nI (hyI h v) := (k.2.2.2.1 v hv).2
theorem jHs_rd (k : jHs h σ) {r : Nat} (hr : r < hyR h) : σ 5 0 r = nI (hyrd h r) := (k.2.2.2.2.1 r hr).1
theorem jHs_ri (k : jHs h σ) {r : Nat} (hr : r < hyR h) : σ 6 0 r = nI (hyri h r) := (k.2.2.2.2.1 r hr).2.1
theorem jHs_rv (k : jHs h σ) {r : Nat} (hr : r < hyR h) : σ 7 0 r = vI (hyrv h r) := (k.2.2.2.2.1 r hr).2.2.1
theorem jHs_ro (k : jHs h σ) {r : Nat} (hr : r < hyR h) : σ 8 0 r = vI (hyro h r) := (k.2.2.2.2.1 r hr).2.2.2
theorem jHs_lt (k : jHs h σ) {t x : Nat} (ht : t < 8) (hx : x < 6) : σ 10 t x = vI (hylt h t x) := k.2.2.2.2.2.1 t x ht hx
theorem jHs_on (k : jHs h σ) {x : Nat} (hx : x < 6) : σ 13 0 x = nI (hyon h x) := k.2.2.2.2.2.2.1 x hx
theorem jHs_od (k : jHs h σ) {x i : Nat} (hx : x < 6) (hi : i < hyon h x) : σ 12 x i = nI (hyod h x i) := k.2.2.2.2.2.2.2 x i hx hi
theorem jHw_V (k : jHw h) : hyV h ≤ 40 := k.1
theorem jHw_R (k : jHw h) : hyR h ≤ 60 := k.2.1
theorem jHw_S (k : jHw h) {t : Nat} (ht : t < 8) : hyS h t < 4 := k.2.2.1 t ht
theorem jHw_W (k : jHw h) {v : Nat} (hv : v < hyV h) : hyW h v < 8 := (k.2.2.2.1 v hv).1
theorem jHw_I (k : jHw h) {v : Nat} (hv : v < hyV h) : hyI h v < 6 := (k.2.2.2.1 v hv).2
theorem jHw_rd (k : jHw h) {r : Nat} (hr : r < hyR h) : hyrd h r < 8 := (k.2.2.2.2.1 r hr).1
theorem jHw_ri (k : jHw h) {r : Nat} (hr : r < hyR h) : hyri h r < 6 := (k.2.2.2.2.1 r hr).2.1
theorem jHw_rv (k : jHw h) {r v : Nat} (hr : r < hyR h) (hv : hyrv h r = some v) : v < hyV h ∧ hyI h v = hyri h r := (k.2.2.2.2.1 r hr).2.2.1 v hv
theorem jHw_ro (k : jHw h) {r v : Nat} (hr : r < hyR h) (hv : hyro h r = some v) : v < hyV h := (k.2.2.2.2.1 r hr).2.2.2.1 v hv
theorem jHw_lt (k : jHw h) {t x v : Nat} (ht : t < 8) (hx : x < 6) (hv : hylt h t x = some v) : v < hyV h ∧ hyW h v = t ∧ hyI h v = x := k.2.2.2.2.2.1 t x v ht hx hv
theorem jHw_on (k : jHw h) {x : Nat} (hx : x < 6) : hyon h x ≤ 8 := (k.2.2.2.2.2.2 x hx).1
theorem jHw_od (k : jHw h) {x i : Nat} (hx : x < 6) (hi : i < hyon h x) : hyod h x i < hyV h ∧ hyI h (hyod h x i) = x ∧ hyS h (hyW h (hyod h x i)) = 2 ∧ hylt h (hyW h (hyod h x i)) x = some (hyod h x i) := (k.2.2.2.2.2.2 x hx).2.1 i hi
theorem jHw_inj (k : jHw h) {x i j : Nat} (hx : x < 6) (hi : i < hyon h x) (hj : j < hyon h x) (e : hyod h x i = hyod h x j) : i = j := (k.2.2.2.2.2.2 x hx).2.2 i j hi hj e
end JHS
/-- the class's cells of the history, unchanged -/
theorem jHs_keep {h : jH} {σ σ' : jxM} (k : jHs h σ) (e : ∀ g, g ≤ 13 → σ' g = σ g) : jHs h σ' := by
  unfold jHs
  rw [e 1 (by omega), e 2 (by omega), e 3 (by omega), e 4 (by omega), e 5 (by omega), e 6 (by omega), e 7 (by omega), e 8 (by omega), e 10 (by omega), e 12 (by omega), e 13 (by omega)]
  exact k
theorem jxs_g (σ : jxM) (g r j : Nat) (x : Int32) {g' : Nat} (h : g' ≠ g) : jxs σ g r j x g' = σ g' := by
  funext r'
  exact jxs_off σ g r j x (fun q => h q.1)
theorem jHJ {g r : Nat} (h : r < jrwH g) : r < jrwJ g := by
  by_cases hg : g < 14
  · have : ∀ g, g < 14 → jrwH g ≤ jrwJ g := by decide
    have := this g hg
    omega
  · exfalso
    have e : jrwH g = 0 := by
      unfold jrwH
      split <;> first | rfl | omega
    omega
end
section
/-! The history: what only reads it. -/
set_option maxRecDepth 100000 in
set_option maxHeartbeats 4000000 in
theorem c_H_isCommitted {l : Launch} {Θ : jxT} (hI : jxI Θ) (hC : ∀ g r, r < jrwH g → Θ.2.2.2 g r) {h : jH} {σ : jxM} (hw : jHw h) (hs : jHs h σ) {t : Nat} (ht : t < 8) : jxMet l y_H_isCommitted b_H_isCommitted 2 (some FieldType.boolean) (jrm 1) Θ [.inr (1, 0), .inl (nI t)] σ (jan (jB (decide (hyS h t = 2))) σ) := by
  refine jxMet.of (own := "HistoryJudge$History") hI (by decide) rfl (Nat.le_of_ble_eq_true rfl) (fun Γ X => ?_)
  show jxW Γ Θ (jan (jB (decide (hyS h t = 2))) σ) 0 [some (.inr (1, 0)), some (.inl (nI t))] [] σ
  have b1 := jHw_S hw ht
  refine j_aload_n X (q := 1) d_H_isCommitted_0 rfl rfl ?_
  refine j_getR X (C := jR2) (T := jT2) (N := 12) (ci := 2) (j := 0) (q := 4) d_H_isCommitted_1 ju2 rfl rfl rfl (by decide) wl73 rfl (hC _ _ (by decide)) rfl ?_
  refine j_iload_n X (q := 5) d_H_isCommitted_4 rfl rfl ?_
  refine j_iald X (q := 6) d_H_isCommitted_5 rfl (by decide) rfl (by omega) (hC _ _ (by decide)) rfl (jHs_S hs ht) ?_
  refine j_iconst X (v := (nI 2)) (q := 7) d_H_isCommitted_6 (by decide +kernel) rfl ?_
  refine j_ncmp_ne X (tgt := 14) (q := 10) d_H_isCommitted_7 (by decide) rfl (by omega) (by omega) (fun h7 => ?_) (fun h7 => ?_)
  · have _b7 := True.intro
    refine j_iconst X (v := (nI 0)) (q := 15) d_H_isCommitted_14 (by decide +kernel) rfl ?_
    refine j_zret X d_H_isCommitted_15 (by decide +kernel) ?_
    exact ⟨by simp [h7, jB], rfl⟩
  · have _b7 := True.intro
    refine j_iconst X (v := (nI 1)) (q := 11) d_H_isCommitted_10 (by decide +kernel) rfl ?_
    refine j_goto X (tgt := 15) d_H_isCommitted_11 (by decide) ?_
    refine j_zret X d_H_isCommitted_15 (by decide +kernel) ?_
    exact ⟨by simp [h7, jB], rfl⟩
set_option maxRecDepth 100000 in
set_option maxHeartbeats 4000000 in
theorem c_H_hasEnded {l : Launch} {Θ : jxT} (hI : jxI Θ) (hC : ∀ g r, r < jrwH g → Θ.2.2.2 g r) {h : jH} {σ : jxM} (hw : jHw h) (hs : jHs h σ) {t : Nat} (ht : t < 8) : jxMet l y_H_hasEnded b_H_hasEnded 2 (some FieldType.boolean) (jrm 1) Θ [.inr (1, 0), .inl (nI t)] σ (jan (jB (decide (1 < hyS h t))) σ) := by
  refine jxMet.of (own := "HistoryJudge$History") hI (by decide) rfl (Nat.le_of_ble_eq_true rfl) (fun Γ X => ?_)
  show jxW Γ Θ (jan (jB (decide (1 < hyS h t))) σ) 0 [some (.inr (1, 0)), some (.inl (nI t))] [] σ
  have b1 := jHw_S hw ht
  refine j_aload_n X (q := 1) d_H_hasEnded_0 rfl rfl ?_
  refine j_getR X (C := jR2) (T := jT2) (N := 12) (ci := 2) (j := 0) (q := 4) d_H_hasEnded_1 ju2 rfl rfl rfl (by decide) wl73 rfl (hC _ _ (by decide)) rfl ?_
  refine j_iload_n X (q := 5) d_H_hasEnded_4 rfl rfl ?_
  refine j_iald X (q := 6) d_H_hasEnded_5 rfl (by decide) rfl (by omega) (hC _ _ (by decide)) rfl (jHs_S hs ht) ?_
  refine j_iconst X (v := (nI 2)) (q := 7) d_H_hasEnded_6 (by decide +kernel) rfl ?_
  refine j_ncmp_eq X (tgt := 20) (q := 10) d_H_hasEnded_7 (by decide) rfl (by omega) (by omega) (fun h7 => ?_) (fun h7 => ?_)
  · have _b7 := True.intro
    refine j_iconst X (v := (nI 1)) (q := 21) d_H_hasEnded_20 (by decide +kernel) rfl ?_
    refine j_goto X (tgt := 25) d_H_hasEnded_21 (by decide) ?_
    refine j_zret X d_H_hasEnded_25 (by decide +kernel) ?_
    refine ⟨?_, rfl⟩
    first
      | rw [decide_eq_true (show 1 < hyS h t by omega)]; rfl
      | rw [decide_eq_false (show ¬ 1 < hyS h t by omega)]; rfl
  · have _b7 := True.intro
    refine j_aload_n X (q := 11) d_H_hasEnded_10 rfl rfl ?_
    refine j_getR X (C := jR2) (T := jT2) (N := 12) (ci := 2) (j := 0) (q := 14) d_H_hasEnded_11 ju2 rfl rfl rfl (by decide) wl73 rfl (hC _ _ (by decide)) rfl ?_
    refine j_iload_n X (q := 15) d_H_hasEnded_14 rfl rfl ?_
    refine j_iald X (q := 16) d_H_hasEnded_15 rfl (by decide) rfl (by omega) (hC _ _ (by decide)) rfl (jHs_S hs ht) ?_
    refine j_iconst X (v := (nI 3)) (q := 17) d_H_hasEnded_16 (by decide +kernel) rfl ?_
    refine j_ncmp_ne X (tgt := 24) (q := 20) d_H_hasEnded_17 (by decide) rfl (by omega) (by omega) (fun h17 => ?_) (fun h17 => ?_)
    · have _b17 := True.intro
      refine j_iconst X (v := (nI 0)) (q := 25) d_H_hasEnded_24 (by decide +kernel) rfl ?_
      refine j_zret X d_H_hasEnded_25 (by decide +kernel) ?_
      refine ⟨?_, rfl⟩
      first
        | rw [decide_eq_true (show 1 < hyS h t by omega)]; rfl
        | rw [decide_eq_false (show ¬ 1 < hyS h t by omega)]; rfl
    · have _b17 := True.intro
      refine j_iconst X (v := (nI 1)) (q := 21) d_H_hasEnded_20 (by decide +kernel) rfl ?_
      refine j_goto X (tgt := 25) d_H_hasEnded_21 (by decide) ?_
      refine j_zret X d_H_hasEnded_25 (by decide +kernel) ?_
      refine ⟨?_, rfl⟩
      first
        | rw [decide_eq_true (show 1 < hyS h t by omega)]; rfl
        | rw [decide_eq_false (show ¬ 1 < hyS h t by omega)]; rfl
set_option maxRecDepth 100000 in
set_option maxHeartbeats 4000000 in
theorem c_H_hasWritten {l : Launch} {Θ : jxT} (hI : jxI Θ) (hC : ∀ g r, r < jrwH g → Θ.2.2.2 g r) {h : jH} {σ : jxM} (hw : jHw h) (hs : jHs h σ) {t x : Nat} (ht : t < 8) (hx : x < 6) : jxMet l y_H_hasWritten b_H_hasWritten 3 (some FieldType.boolean) (jrm 1) Θ [.inr (1, 0), .inl (nI t), .inl (nI x)] σ (jan (jB (hylt h t x).isSome) σ) := by
  refine jxMet.of (own := "HistoryJudge$History") hI (by decide) rfl (Nat.le_of_ble_eq_true rfl) (fun Γ X => ?_)
  show jxW Γ Θ (jan (jB (hylt h t x).isSome) σ) 0 [some (.inr (1, 0)), some (.inl (nI t)), some (.inl (nI x))] [] σ
  have b1 := vI_m1 (hylt h t x) (fun v hv => by have := (jHw_lt hw ht hx hv).1; have := jHw_V hw; omega)
  refine j_aload_n X (q := 1) d_H_hasWritten_0 rfl rfl ?_
  refine j_getR X (C := jR2) (T := jT2) (N := 12) (ci := 2) (j := 9) (q := 4) d_H_hasWritten_1 ju2 rfl rfl rfl (by decide) wl96 rfl (hC _ _ (by decide)) rfl ?_
  refine j_iload_n X (q := 5) d_H_hasWritten_4 rfl rfl ?_
  refine j_aald X (q := 6) d_H_hasWritten_5 rfl (by decide) rfl (by omega) (hC _ _ (by decide)) rfl ?_
  refine j_iload_n X (q := 7) d_H_hasWritten_6 rfl rfl ?_
  refine j_iald X (q := 8) d_H_hasWritten_7 rfl (by decide) rfl (by omega) (hC _ _ (by show _ < 8; omega)) rfl (jHs_lt hs ht hx) ?_
  refine j_iconst X (v := (-1)) (q := 9) d_H_hasWritten_8 (by decide +kernel) rfl ?_
  refine j_icmp_eq X (tgt := 16) (q := 12) d_H_hasWritten_9 (by decide) rfl (fun h9 => ?_) (fun h9 => ?_)
  · have _b9 := True.intro
    have b2 := b1.mp h9
    refine j_iconst X (v := (nI 0)) (q := 17) d_H_hasWritten_16 (by decide +kernel) rfl ?_
    refine j_zret X d_H_hasWritten_17 (by decide +kernel) ?_
    exact ⟨by rw [b2]; rfl, rfl⟩
  · have _b9 := True.intro
    have b2 : (hylt h t x).isSome = true := by
      cases e : hylt h t x with
      | some v => rfl
      | none => exact absurd (b1.mpr e) h9
    refine j_iconst X (v := (nI 1)) (q := 13) d_H_hasWritten_12 (by decide +kernel) rfl ?_
    refine j_goto X (tgt := 17) d_H_hasWritten_13 (by decide) ?_
    refine j_zret X d_H_hasWritten_17 (by decide +kernel) ?_
    exact ⟨by rw [b2]; rfl, rfl⟩
set_option maxRecDepth 100000 in
set_option maxHeartbeats 4000000 in
theorem c_H_isFinal {l : Launch} {Θ : jxT} (hI : jxI Θ) (hC : ∀ g r, r < jrwH g → Θ.2.2.2 g r) {h : jH} {σ : jxM} (hw : jHw h) (hs : jHs h σ) {v : Nat} (hv : v < hyV h) : jxMet l y_H_isFinal b_H_isFinal 2 (some FieldType.boolean) (jrm 1) Θ [.inr (1, 0), .inl (nI v)] σ (jan (jB (decide (hylt h (hyW h v) (hyI h v) = some v))) σ) := by
  refine jxMet.of (own := "HistoryJudge$History") hI (by decide) rfl (Nat.le_of_ble_eq_true rfl) (fun Γ X => ?_)
  show jxW Γ Θ (jan (jB (decide (hylt h (hyW h v) (hyI h v) = some v))) σ) 0 [some (.inr (1, 0)), some (.inl (nI v))] [] σ
  have bV := jHw_V hw
  have b1 := jHw_W hw hv
  have b2 := jHw_I hw hv
  have b3 : vI (hylt h (hyW h v) (hyI h v)) = nI v ↔ hylt h (hyW h v) (hyI h v) = some v := by
    cases e : hylt h (hyW h v) (hyI h v) with
    | none => exact ⟨fun q => absurd q.symm (nI_ne_m1 (by omega)), fun q => by cases q⟩
    | some w =>
      have := (jHw_lt hw b1 b2 e).1
      show nI w = nI v ↔ some w = some v
      rw [nI_eq (by omega) (by omega), Option.some.injEq]
  refine j_aload_n X (q := 1) d_H_isFinal_0 rfl rfl ?_
  refine j_getR X (C := jR2) (T := jT2) (N := 12) (ci := 2) (j := 9) (q := 4) d_H_isFinal_1 ju2 rfl rfl rfl (by decide) wl96 rfl (hC _ _ (by decide)) rfl ?_
  refine j_aload_n X (q := 5) d_H_isFinal_4 rfl rfl ?_
  refine j_getR X (C := jR2) (T := jT2) (N := 12) (ci := 2) (j := 1) (q := 8) d_H_isFinal_5 ju2 rfl rfl rfl (by decide) wl75 rfl (hC _ _ (by decide)) rfl ?_
  refine j_iload_n X (q := 9) d_H_isFinal_8 rfl rfl ?_
  refine j_iald X (q := 10) d_H_isFinal_9 rfl (by decide) rfl (by omega) (hC _ _ (by decide)) rfl (jHs_W hs hv) ?_
  refine j_aald X (q := 11) d_H_isFinal_10 rfl (by decide) rfl (by omega) (hC _ _ (by decide)) rfl ?_
  refine j_aload_n X (q := 12) d_H_isFinal_11 rfl rfl ?_
  refine j_getR X (C := jR2) (T := jT2) (N := 12) (ci := 2) (j := 2) (q := 15) d_H_isFinal_12 ju2 rfl rfl rfl (by decide) wl78 rfl (hC _ _ (by decide)) rfl ?_
  refine j_iload_n X (q := 16) d_H_isFinal_15 rfl rfl ?_
  refine j_iald X (q := 17) d_H_isFinal_16 rfl (by decide) rfl (by omega) (hC _ _ (by decide)) rfl (jHs_I hs hv) ?_
  refine j_iald X (q := 18) d_H_isFinal_17 rfl (by decide) rfl (by omega) (hC _ _ (by show _ < 8; omega)) rfl (jHs_lt hs b1 b2) ?_
  refine j_iload_n X (q := 19) d_H_isFinal_18 rfl rfl ?_
  refine j_icmp_ne X (tgt := 26) (q := 22) d_H_isFinal_19 (by decide) rfl (fun h19 => ?_) (fun h19 => ?_)
  · have _b19 := True.intro
    have b4 : decide (hylt h (hyW h v) (hyI h v) = some v) = false := decide_eq_false (fun q => h19 (b3.mpr q))
    refine j_iconst X (v := (nI 0)) (q := 27) d_H_isFinal_26 (by decide +kernel) rfl ?_
    refine j_zret X d_H_isFinal_27 (by decide +kernel) ?_
    exact ⟨by rw [b4]; rfl, rfl⟩
  · have _b19 := True.intro
    have b4 : decide (hylt h (hyW h v) (hyI h v) = some v) = true := decide_eq_true (b3.mp h19)
    refine j_iconst X (v := (nI 1)) (q := 23) d_H_isFinal_22 (by decide +kernel) rfl ?_
    refine j_goto X (tgt := 27) d_H_isFinal_23 (by decide) ?_
    refine j_zret X d_H_isFinal_27 (by decide +kernel) ?_
    exact ⟨by rw [b4]; rfl, rfl⟩
/-- the int x names an existing version of the item, or the first one -/
def jhv (h : jH) (x : Nat) (v : Int32) : Bool := decide (v = -1) || (jin v (hyV h) && decide (hyI h v.toNatClampNeg = x))
set_option maxRecDepth 100000 in
set_option maxHeartbeats 4000000 in
theorem c_H_hasVersion {l : Launch} {Θ : jxT} (hI : jxI Θ) (hC : ∀ g r, r < jrwH g → Θ.2.2.2 g r) {h : jH} {σ : jxM} (hw : jHw h) (hs : jHs h σ) {x : Nat} (hx : x < 6) (v : Int32) : jxMet l y_H_hasVersion b_H_hasVersion 3 (some FieldType.boolean) (jrm 1) Θ [.inr (1, 0), .inl (nI x), .inl v] σ (jan (jB (jhv h x v)) σ) := by
  refine jxMet.of (own := "HistoryJudge$History") hI (by decide) rfl (Nat.le_of_ble_eq_true rfl) (fun Γ X => ?_)
  show jxW Γ Θ (jan (jB (jhv h x v)) σ) 0 [some (.inr (1, 0)), some (.inl (nI x)), some (.inl v)] [] σ
  have bV := jHw_V hw
  refine j_iload_n X (q := 1) d_H_hasVersion_0 rfl rfl ?_
  refine j_iconst X (v := (-1)) (q := 2) d_H_hasVersion_1 (by decide +kernel) rfl ?_
  refine j_icmp_ne X (tgt := 7) (q := 5) d_H_hasVersion_2 (by decide) rfl (fun h2 => ?_) (fun h2 => ?_)
  · have _b2 := True.intro
    refine j_iload_n X (q := 8) d_H_hasVersion_7 rfl rfl ?_
    refine j_if_lt X (tgt := 33) (q := 11) d_H_hasVersion_8 (by decide) rfl (fun h8 => ?_) (fun h8 => ?_)
    · have _b8 := True.intro
      have b : jhv h x v = false := by simp [jhv, h2, jin_neg h8]
      refine j_iconst X (v := (nI 0)) (q := 34) d_H_hasVersion_33 (by decide +kernel) rfl ?_
      refine j_zret X d_H_hasVersion_34 (by decide +kernel) ?_
      exact ⟨by rw [b]; rfl, rfl⟩
    · have _b8 := True.intro
      refine j_iload_n X (q := 12) d_H_hasVersion_11 rfl rfl ?_
      refine j_aload_n X (q := 13) d_H_hasVersion_12 rfl rfl ?_
      refine j_getI X (C := jR2) (T := jT2) (N := 12) (ci := 2) (j := 3) (q := 16) d_H_hasVersion_13 ju2 rfl rfl rfl (by decide) wl79 rfl (hC _ _ (by decide)) rfl (jHs_V hs) ?_
      refine j_icmp_ge X (tgt := 33) (q := 19) d_H_hasVersion_16 (by decide) rfl (fun h16 => ?_) (fun h16 => ?_)
      · have _b16 := True.intro
        have b : jhv h x v = false := by simp [jhv, h2, jin_big (show hyV h < 2 ^ 31 by omega) h16]
        refine j_iconst X (v := (nI 0)) (q := 34) d_H_hasVersion_33 (by decide +kernel) rfl ?_
        refine j_zret X d_H_hasVersion_34 (by decide +kernel) ?_
        exact ⟨by rw [b]; rfl, rfl⟩
      · have _b16 := True.intro
        obtain ⟨k, hk, ek⟩ := jin_of (jin_yes (show hyV h < 2 ^ 31 by omega) h8 h16) (by omega)
        have bk := jHw_I hw hk
        refine j_aload_n X (q := 20) d_H_hasVersion_19 rfl rfl ?_
        refine j_getR X (C := jR2) (T := jT2) (N := 12) (ci := 2) (j := 2) (q := 23) d_H_hasVersion_20 ju2 rfl rfl rfl (by decide) wl78 rfl (hC _ _ (by decide)) rfl ?_
        refine j_iload_n X (q := 24) d_H_hasVersion_23 rfl rfl ?_
        refine j_iald X (j := k) (q := 25) d_H_hasVersion_24 rfl (by decide) ek (by omega) (hC _ _ (by decide)) rfl (jHs_I hs hk) ?_
        refine j_iload_n X (q := 26) d_H_hasVersion_25 rfl rfl ?_
        refine j_icmp_ne X (tgt := 33) (q := 29) d_H_hasVersion_26 (by decide) rfl (fun h26 => ?_) (fun h26 => ?_)
        · have _b26 := True.intro
          have b : jhv h x v = false := by
            subst ek
            rw [nI_eq (by omega) (by omega)] at h26
            simp [jhv, h2, nI_clamp (show k < 2 ^ 31 by omega), h26]
          refine j_iconst X (v := (nI 0)) (q := 34) d_H_hasVersion_33 (by decide +kernel) rfl ?_
          refine j_zret X d_H_hasVersion_34 (by decide +kernel) ?_
          exact ⟨by rw [b]; rfl, rfl⟩
        · have _b26 := True.intro
          have b : jhv h x v = true := by
            have e2 := jin_yes (show hyV h < 2 ^ 31 by omega) h8 h16
            subst ek
            rw [nI_eq (by omega) (by omega)] at h26
            simp [jhv, e2, nI_clamp (show k < 2 ^ 31 by omega), h26]
          refine j_iconst X (v := (nI 1)) (q := 30) d_H_hasVersion_29 (by decide +kernel) rfl ?_
          refine j_goto X (tgt := 34) d_H_hasVersion_30 (by decide) ?_
          refine j_zret X d_H_hasVersion_34 (by decide +kernel) ?_
          exact ⟨by rw [b]; rfl, rfl⟩
  · have _b2 := True.intro
    have b : jhv h x v = true := by simp [jhv, h2]
    refine j_iconst X (v := (nI 1)) (q := 6) d_H_hasVersion_5 (by decide +kernel) rfl ?_
    refine j_zret X d_H_hasVersion_6 (by decide +kernel) ?_
    exact ⟨by rw [b]; rfl, rfl⟩
end
section
/-! The history: sets, places, reads judged. -/
set_option maxRecDepth 100000 in
set_option maxHeartbeats 4000000 in
theorem c_H_committedSet {l : Launch} {Θ : jxT} (hI : jxI Θ) (hC : ∀ g r, r < jrwH g → Θ.2.2.2 g r) {h : jH} {σ : jxM} (hw : jHw h) (hs : jHs h σ)  : jxMet l y_H_committedSet b_H_committedSet 3 (some FieldType.int) (jrm 2) Θ [.inr (1, 0)] σ (jan (bI (fun t => decide (hyS h t = 2))) σ) := by
  refine jxMet.of (own := "HistoryJudge$History") hI (by decide) rfl (Nat.le_of_ble_eq_true rfl) (fun Γ X => ?_)
  show jxW Γ Θ (jan (bI (fun t => decide (hyS h t = 2))) σ) 0 [some (.inr (1, 0)), none, none] [] σ
  have K : ∀ (N : Nat) (t : Nat), 9 - t < N → t ≤ 8 → jxW Γ Θ (jan (bI (fun t => decide (hyS h t = 2))) σ) 4 [some (.inr (1, 0)), some (.inl (bI (fun i => decide (i < t) && decide (hyS h i = 2)))), some (.inl (nI (t)))] [] σ := by
    intro N
    induction N with
    | zero => intro t hn; exact absurd hn (Nat.not_lt_zero _)
    | succ N ih =>
      intro t hn ht
      refine j_iload_n X (q := 5) d_H_committedSet_4 rfl rfl ?_
      refine j_bipush X (v := (nI 8)) (q := 7) d_H_committedSet_5 (by decide +kernel) rfl ?_
      refine j_ncmp_ge X (tgt := 31) (q := 10) d_H_committedSet_7 (by decide) rfl (by omega) (by omega) (fun h7 => ?_) (fun h7 => ?_)
      · have _b7 := True.intro
        refine j_iload_n X (q := 32) d_H_committedSet_31 rfl rfl ?_
        refine j_iret X d_H_committedSet_32 ?_
        exact ⟨by rw [bI_ext (S := fun i => decide (i < t) && decide (hyS h i = 2)) (T := fun t => decide (hyS h t = 2)) (fun i hi => by simp [show i < t by omega])], rfl⟩
      · have _b7 := True.intro
        refine j_aload_n X (q := 11) d_H_committedSet_10 rfl rfl ?_
        refine j_iload_n X (q := 12) d_H_committedSet_11 rfl rfl ?_
        refine j_callV X (n := 1) (C := jR2) (T := jT2) (N := 12) d_H_committedSet_12 (c_H_isCommitted hI hC hw hs (t := t) (by omega)) rfl rfl (hC _ _ (by decide)) wl259 wl210 wl211 wl37 wl212 (by decide +kernel) ⟨rfl, rfl⟩ (by decide) rfl rfl (Nat.le_of_ble_eq_true rfl) rfl (q := 15) rfl (fun r12 τ12 e12 => ?_)
        obtain ⟨rfl, rfl⟩ := e12
        refine j_bif_eq X (tgt := 25) (q := 18) d_H_committedSet_15 (by decide) rfl (fun h15 => ?_) (fun h15 => ?_)
        · have _b15 := True.intro
          refine j_iinc X (q := 28) d_H_committedSet_25 rfl (j_inc1 _) rfl ?_
          refine j_goto X (tgt := 4) d_H_committedSet_28 (by decide) ?_
          have e : bI (fun i => decide (i < t) && decide (hyS h i = 2)) = bI (fun i => decide (i < t + 1) && decide (hyS h i = 2)) := bI_ext (fun i hi => by
            by_cases q : i = t
            · subst q; simp [show ¬ hyS h i = 2 by simpa using h15]
            · rw [show decide (i < t + 1) = decide (i < t) by (by_cases z : i < t <;> simp [z] <;> omega)])
          refine jxW.cast (L' := [some (.inr (1, 0)), some (.inl (bI (fun i => decide (i < t + 1) && decide (hyS h i = 2)))), some (.inl (nI (t + 1)))]) (by rw [← e]; rfl) rfl rfl ?_
          exact ih (t + 1) (by omega) (by omega)
        · have _b15 := True.intro
          refine j_iload_n X (q := 19) d_H_committedSet_18 rfl rfl ?_
          refine j_iload_n X (q := 20) d_H_committedSet_19 rfl rfl ?_
          refine j_callSN X (n := 1) d_H_committedSet_20 (c_J_only hI (t := t) (by omega) σ) wl208 nl7 wl36 wl207 (by decide +kernel) ⟨rfl, rfl⟩ (by decide) rfl rfl (Nat.le_of_ble_eq_true rfl) rfl (q := 23) rfl (fun r20 τ20 e20 => ?_)
          obtain ⟨rfl, rfl⟩ := e20
          refine j_ior X (q := 24) d_H_committedSet_23 rfl ?_
          refine j_istore_n X (j := 1) (q := 25) d_H_committedSet_24 rfl (Nat.le_of_ble_eq_true rfl) rfl ?_
          refine j_iinc X (q := 28) d_H_committedSet_25 rfl (j_inc1 _) rfl ?_
          refine j_goto X (tgt := 4) d_H_committedSet_28 (by decide) ?_
          have e : bI (fun i => decide (i < t) && decide (hyS h i = 2)) ||| bI (fun i => decide (i = t)) = bI (fun i => decide (i < t + 1) && decide (hyS h i = 2)) := by
            rw [bI_or]
            exact bI_ext (fun i hi => by
              by_cases q : i = t
              · subst q; simp [show hyS h i = 2 by simpa using h15]
              · rw [show decide (i < t + 1) = decide (i < t) by (by_cases z : i < t <;> simp [z] <;> omega)]; simp [q])
          refine jxW.cast (L' := [some (.inr (1, 0)), some (.inl (bI (fun i => decide (i < t + 1) && decide (hyS h i = 2)))), some (.inl (nI (t + 1)))]) (by rw [← e]; rfl) rfl rfl ?_
          exact ih (t + 1) (by omega) (by omega)
  refine j_iconst X (v := (nI 0)) (q := 1) d_H_committedSet_0 (by decide +kernel) rfl ?_
  refine j_istore_n X (j := 1) (q := 2) d_H_committedSet_1 rfl (Nat.le_of_ble_eq_true rfl) rfl ?_
  refine j_iconst X (v := (nI 0)) (q := 3) d_H_committedSet_2 (by decide +kernel) rfl ?_
  refine j_istore_n X (j := 2) (q := 4) d_H_committedSet_3 rfl (Nat.le_of_ble_eq_true rfl) rfl ?_
  refine jxW.cast (L' := [some (.inr (1, 0)), some (.inl (bI (fun i => decide (i < 0) && decide (hyS h i = 2)))), some (.inl (nI (0)))]) (by rw [show bI (fun i => decide (i < 0) && decide (hyS h i = 2)) = nI 0 by (rw [show (fun i => decide (i < 0) && decide (hyS h i = 2)) = (fun _ => false) by (funext i; simp)]); exact bI_false]; rfl) rfl rfl ?_
  exact K 10 0 (by omega) (by omega)
set_option maxRecDepth 100000 in
set_option maxHeartbeats 4000000 in
theorem c_H_placeBehind {l : Launch} {Θ : jxT} (hI : jxI Θ) (hC : ∀ g r, r < jrwH g → Θ.2.2.2 g r) {h : jH} {σ : jxM} (hw : jHw h) (hs : jHs h σ) {x v : Nat} (hx : x < 6) (hv : v < 2 ^ 31) : jxMet l y_H_placeBehind b_H_placeBehind 4 (some FieldType.int) (jrm 1) Θ [.inr (1, 0), .inl (nI x), .inl (nI v)] σ (fun r σ' => ∃ k, r = some (.inl (nI k)) ∧ σ = σ' ∧ k ≤ hyon h x ∧ ((∃ i, i < hyon h x ∧ hyod h x i = v ∧ k = i + 1) ∨ ((∀ i, i < hyon h x → hyod h x i ≠ v) ∧ k = hyon h x))) := by
  refine jxMet.of (own := "HistoryJudge$History") hI (by decide) rfl (Nat.le_of_ble_eq_true rfl) (fun Γ X => ?_)
  show jxW Γ Θ (fun r σ' => ∃ k, r = some (.inl (nI k)) ∧ σ = σ' ∧ k ≤ hyon h x ∧ ((∃ i, i < hyon h x ∧ hyod h x i = v ∧ k = i + 1) ∨ ((∀ i, i < hyon h x → hyod h x i ≠ v) ∧ k = hyon h x))) 0 [some (.inr (1, 0)), some (.inl (nI x)), some (.inl (nI v)), none] [] σ
  have bV := jHw_V hw
  have bO := jHw_on hw hx
  have K : ∀ (N : Nat) (i : Nat), hyon h x - i < N → i ≤ hyon h x → (∀ j, j < i → hyod h x j ≠ v) → jxW Γ Θ (fun r σ' => ∃ k, r = some (.inl (nI k)) ∧ σ = σ' ∧ k ≤ hyon h x ∧ ((∃ i, i < hyon h x ∧ hyod h x i = v ∧ k = i + 1) ∨ ((∀ i, i < hyon h x → hyod h x i ≠ v) ∧ k = hyon h x))) 2 [some (.inr (1, 0)), some (.inl (nI x)), some (.inl (nI v)), some (.inl (nI i))] [] σ := by
    intro N
    induction N with
    | zero => intro i hn; exact absurd hn (Nat.not_lt_zero _)
    | succ N ih =>
      intro i hn hi hno
      refine j_iload_n X (q := 3) d_H_placeBehind_2 rfl rfl ?_
      refine j_aload_n X (q := 4) d_H_placeBehind_3 rfl rfl ?_
      refine j_getR X (C := jR2) (T := jT2) (N := 12) (ci := 2) (j := 11) (q := 7) d_H_placeBehind_4 ju2 rfl rfl rfl (by decide) wl100 rfl (hC _ _ (by decide)) rfl ?_
      refine j_iload_n X (q := 8) d_H_placeBehind_7 rfl rfl ?_
      refine j_iald X (q := 9) d_H_placeBehind_8 rfl (by decide) rfl (by omega) (hC _ _ (by decide)) rfl (jHs_on hs hx) ?_
      refine j_ncmp_ge X (tgt := 34) (q := 12) d_H_placeBehind_9 (by decide) rfl (by omega) (by omega) (fun h9 => ?_) (fun h9 => ?_)
      · have _b9 := True.intro
        refine j_aload_n X (q := 35) d_H_placeBehind_34 rfl rfl ?_
        refine j_getR X (C := jR2) (T := jT2) (N := 12) (ci := 2) (j := 11) (q := 38) d_H_placeBehind_35 ju2 rfl rfl rfl (by decide) wl100 rfl (hC _ _ (by decide)) rfl ?_
        refine j_iload_n X (q := 39) d_H_placeBehind_38 rfl rfl ?_
        refine j_iald X (q := 40) d_H_placeBehind_39 rfl (by decide) rfl (by omega) (hC _ _ (by decide)) rfl (jHs_on hs hx) ?_
        refine j_iret X d_H_placeBehind_40 ?_
        exact ⟨hyon h x, rfl, rfl, Nat.le_refl _, Or.inr ⟨fun j hj => hno j (by omega), rfl⟩⟩
      · have _b9 := True.intro
        have bo := (jHw_od hw hx (show i < hyon h x by omega)).1
        refine j_aload_n X (q := 13) d_H_placeBehind_12 rfl rfl ?_
        refine j_getR X (C := jR2) (T := jT2) (N := 12) (ci := 2) (j := 10) (q := 16) d_H_placeBehind_13 ju2 rfl rfl rfl (by decide) wl97 rfl (hC _ _ (by decide)) rfl ?_
        refine j_iload_n X (q := 17) d_H_placeBehind_16 rfl rfl ?_
        refine j_aald X (q := 18) d_H_placeBehind_17 rfl (by decide) rfl (by omega) (hC _ _ (by decide)) rfl ?_
        refine j_iload_n X (q := 19) d_H_placeBehind_18 rfl rfl ?_
        refine j_iald X (q := 20) d_H_placeBehind_19 rfl (by decide) rfl (by omega) (hC _ _ (by show _ < 6; omega)) rfl (jHs_od hs hx (by omega)) ?_
        refine j_iload_n X (q := 21) d_H_placeBehind_20 rfl rfl ?_
        refine j_ncmp_ne X (tgt := 28) (q := 24) d_H_placeBehind_21 (by decide) rfl (by omega) (by omega) (fun h21 => ?_) (fun h21 => ?_)
        · have _b21 := True.intro
          refine j_iinc X (q := 31) d_H_placeBehind_28 rfl (j_inc1 _) rfl ?_
          refine j_goto X (tgt := 2) d_H_placeBehind_31 (by decide) ?_
          exact ih (i + 1) (by omega) (by omega) (fun j hj => by
            by_cases q : j = i
            · rw [q]; exact h21
            · exact hno j (by omega))
        · have _b21 := True.intro
          refine j_iload_n X (q := 25) d_H_placeBehind_24 rfl rfl ?_
          refine j_iconst X (v := (nI 1)) (q := 26) d_H_placeBehind_25 (by decide +kernel) rfl ?_
          refine j_iadd X (q := 27) d_H_placeBehind_26 rfl ?_
          refine j_iret X d_H_placeBehind_27 ?_
          exact ⟨i + 1, by rw [nI_add], rfl, by omega, Or.inl ⟨i, by omega, h21, rfl⟩⟩
  refine j_iconst X (v := (nI 0)) (q := 1) d_H_placeBehind_0 (by decide +kernel) rfl ?_
  refine j_istore_n X (j := 3) (q := 2) d_H_placeBehind_1 rfl (Nat.le_of_ble_eq_true rfl) rfl ?_
  exact K 9 0 (by omega) (by omega) (fun j hj => by omega)
/-- o' is the writer of the next version behind o in the order of x (behind none: the first), if there is a next -/
def jnwr (h : jH) (x : Nat) (o o' : Option Nat) : Prop :=
  (o' = none ∧ (o = none → hyon h x = 0) ∧ ∀ v, o = some v → ∀ i, i + 1 < hyon h x → hyod h x i ≠ v) ∨
  (∃ i, i < hyon h x ∧ ((o = none ∧ i = 0) ∨ (0 < i ∧ o = some (hyod h x (i - 1)))) ∧ o' = some (hyW h (hyod h x i)))
set_option maxRecDepth 100000 in
set_option maxHeartbeats 4000000 in
theorem c_H_writerOfNext {l : Launch} {Θ : jxT} (hI : jxI Θ) (hC : ∀ g r, r < jrwH g → Θ.2.2.2 g r) {h : jH} {σ : jxM} (hw : jHw h) (hs : jHs h σ) {x : Nat} {o : Option Nat} (hx : x < 6) (ho : ∀ v, o = some v → v < hyV h) : jxMet l y_H_writerOfNext b_H_writerOfNext 4 (some FieldType.int) (jrm 2) Θ [.inr (1, 0), .inl (nI x), .inl (vI o)] σ (fun r σ' => ∃ o', r = some (.inl (vI o')) ∧ σ = σ' ∧ (∀ w, o' = some w → w < 8) ∧ jnwr h x o o') := by
  refine jxMet.of (own := "HistoryJudge$History") hI (by decide) rfl (Nat.le_of_ble_eq_true rfl) (fun Γ X => ?_)
  show jxW Γ Θ (fun r σ' => ∃ o', r = some (.inl (vI o')) ∧ σ = σ' ∧ (∀ w, o' = some w → w < 8) ∧ jnwr h x o o') 0 [some (.inr (1, 0)), some (.inl (nI x)), some (.inl (vI o)), none] [] σ
  have bV := jHw_V hw
  have bO := jHw_on hw hx
  have bm := vI_m1 o (fun v hv => by have := ho v hv; omega)
  refine j_iload_n X (q := 1) d_H_writerOfNext_0 rfl rfl ?_
  refine j_iconst X (v := (-1)) (q := 2) d_H_writerOfNext_1 (by decide +kernel) rfl ?_
  refine j_icmp_ne X (tgt := 9) (q := 5) d_H_writerOfNext_2 (by decide) rfl (fun h2 => ?_) (fun h2 => ?_)
  · have _b2 := True.intro
    obtain ⟨v, rfl⟩ : ∃ v, o = some v := by
      cases o with
      | none => exact absurd rfl h2
      | some v => exact ⟨v, rfl⟩
    have bv := ho v rfl
    refine j_aload_n X (q := 10) d_H_writerOfNext_9 rfl rfl ?_
    refine j_iload_n X (q := 11) d_H_writerOfNext_10 rfl rfl ?_
    refine j_iload_n X (q := 12) d_H_writerOfNext_11 rfl rfl ?_
    refine j_callV X (n := 2) (C := jR2) (T := jT2) (N := 12) d_H_writerOfNext_12 (c_H_placeBehind hI hC hw hs (x := x) (v := v) hx (by omega)) rfl rfl (hC _ _ (by decide)) wl220 wl221 wl2 wl37 wl222 (by decide +kernel) ⟨rfl, rfl⟩ (by decide) rfl rfl (Nat.le_of_ble_eq_true rfl) rfl (q := 15) rfl (fun r12 τ12 e12 => ?_)
    obtain ⟨k, rfl, rfl, hk, hk2⟩ := e12
    refine j_istore_n X (j := 3) (q := 16) d_H_writerOfNext_15 rfl (Nat.le_of_ble_eq_true rfl) rfl ?_
    refine j_iload_n X (q := 17) d_H_writerOfNext_16 rfl rfl ?_
    refine j_aload_n X (q := 18) d_H_writerOfNext_17 rfl rfl ?_
    refine j_getR X (C := jR2) (T := jT2) (N := 12) (ci := 2) (j := 11) (q := 21) d_H_writerOfNext_18 ju2 rfl rfl rfl (by decide) wl100 rfl (hC _ _ (by decide)) rfl ?_
    refine j_iload_n X (q := 22) d_H_writerOfNext_21 rfl rfl ?_
    refine j_iald X (q := 23) d_H_writerOfNext_22 rfl (by decide) rfl (by omega) (hC _ _ (by decide)) rfl (jHs_on hs hx) ?_
    refine j_ncmp_ge X (tgt := 42) (q := 26) d_H_writerOfNext_23 (by decide) rfl (by omega) (by omega) (fun h23 => ?_) (fun h23 => ?_)
    · have _b23 := True.intro
      refine j_iconst X (v := (-1)) (q := 43) d_H_writerOfNext_42 (by decide +kernel) rfl ?_
      refine j_iret X d_H_writerOfNext_43 ?_
      refine ⟨none, rfl, rfl, fun w q => (by cases q), Or.inl ⟨rfl, fun q => (by cases q), fun w hw' i hi e => ?_⟩⟩
      cases hw'
      rcases hk2 with ⟨j, h1, h2', h3⟩ | ⟨h1, -⟩
      · have := jHw_inj hw hx (show i < hyon h x by omega) h1 (by rw [e, h2'])
        omega
      · exact h1 i (by omega) e
    · have _b23 := True.intro
      have bo := fun i (hi : i < hyon h x) => (jHw_od hw hx hi).1
      refine j_aload_n X (q := 27) d_H_writerOfNext_26 rfl rfl ?_
      refine j_getR X (C := jR2) (T := jT2) (N := 12) (ci := 2) (j := 1) (q := 30) d_H_writerOfNext_27 ju2 rfl rfl rfl (by decide) wl75 rfl (hC _ _ (by decide)) rfl ?_
      refine j_aload_n X (q := 31) d_H_writerOfNext_30 rfl rfl ?_
      refine j_getR X (C := jR2) (T := jT2) (N := 12) (ci := 2) (j := 10) (q := 34) d_H_writerOfNext_31 ju2 rfl rfl rfl (by decide) wl97 rfl (hC _ _ (by decide)) rfl ?_
      refine j_iload_n X (q := 35) d_H_writerOfNext_34 rfl rfl ?_
      refine j_aald X (q := 36) d_H_writerOfNext_35 rfl (by decide) rfl (by omega) (hC _ _ (by decide)) rfl ?_
      refine j_iload_n X (q := 37) d_H_writerOfNext_36 rfl rfl ?_
      refine j_iald X (q := 38) d_H_writerOfNext_37 rfl (by decide) rfl (by omega) (hC _ _ (by show _ < 6; omega)) rfl (jHs_od hs hx (by omega)) ?_
      refine j_iald X (q := 39) d_H_writerOfNext_38 rfl (by decide) rfl (Nat.lt_of_lt_of_le (bo _ (by omega)) bV) (hC _ _ (by decide)) rfl (jHs_W hs (bo _ (by omega))) ?_
      refine j_goto X (tgt := 43) d_H_writerOfNext_39 (by decide) ?_
      refine j_iret X d_H_writerOfNext_43 ?_
      refine ⟨some (hyW h (hyod h x k)), rfl, rfl, fun w q => (by cases q; exact jHw_W hw (bo _ (by omega))), Or.inr ⟨k, by omega, Or.inr ?_, rfl⟩⟩
      rcases hk2 with ⟨j, h1, h2', h3⟩ | ⟨-, h3⟩
      · subst h3; exact ⟨by omega, by rw [Nat.add_sub_cancel, h2']⟩
      · omega
  · have _b2 := True.intro
    obtain rfl := bm.mp h2
    refine j_iconst X (v := (nI 0)) (q := 6) d_H_writerOfNext_5 (by decide +kernel) rfl ?_
    refine j_goto X (tgt := 15) d_H_writerOfNext_6 (by decide) ?_
    refine j_istore_n X (j := 3) (q := 16) d_H_writerOfNext_15 rfl (Nat.le_of_ble_eq_true rfl) rfl ?_
    refine j_iload_n X (q := 17) d_H_writerOfNext_16 rfl rfl ?_
    refine j_aload_n X (q := 18) d_H_writerOfNext_17 rfl rfl ?_
    refine j_getR X (C := jR2) (T := jT2) (N := 12) (ci := 2) (j := 11) (q := 21) d_H_writerOfNext_18 ju2 rfl rfl rfl (by decide) wl100 rfl (hC _ _ (by decide)) rfl ?_
    refine j_iload_n X (q := 22) d_H_writerOfNext_21 rfl rfl ?_
    refine j_iald X (q := 23) d_H_writerOfNext_22 rfl (by decide) rfl (by omega) (hC _ _ (by decide)) rfl (jHs_on hs hx) ?_
    refine j_ncmp_ge X (tgt := 42) (q := 26) d_H_writerOfNext_23 (by decide) rfl (by omega) (by omega) (fun h23 => ?_) (fun h23 => ?_)
    · have _b23 := True.intro
      refine j_iconst X (v := (-1)) (q := 43) d_H_writerOfNext_42 (by decide +kernel) rfl ?_
      refine j_iret X d_H_writerOfNext_43 ?_
      exact ⟨none, rfl, rfl, fun w q => (by cases q), Or.inl ⟨rfl, fun _ => (by omega), fun w q => (by cases q)⟩⟩
    · have _b23 := True.intro
      have bo := fun i (hi : i < hyon h x) => (jHw_od hw hx hi).1
      refine j_aload_n X (q := 27) d_H_writerOfNext_26 rfl rfl ?_
      refine j_getR X (C := jR2) (T := jT2) (N := 12) (ci := 2) (j := 1) (q := 30) d_H_writerOfNext_27 ju2 rfl rfl rfl (by decide) wl75 rfl (hC _ _ (by decide)) rfl ?_
      refine j_aload_n X (q := 31) d_H_writerOfNext_30 rfl rfl ?_
      refine j_getR X (C := jR2) (T := jT2) (N := 12) (ci := 2) (j := 10) (q := 34) d_H_writerOfNext_31 ju2 rfl rfl rfl (by decide) wl97 rfl (hC _ _ (by decide)) rfl ?_
      refine j_iload_n X (q := 35) d_H_writerOfNext_34 rfl rfl ?_
      refine j_aald X (q := 36) d_H_writerOfNext_35 rfl (by decide) rfl (by omega) (hC _ _ (by decide)) rfl ?_
      refine j_iload_n X (q := 37) d_H_writerOfNext_36 rfl rfl ?_
      refine j_iald X (q := 38) d_H_writerOfNext_37 rfl (by decide) rfl (by omega) (hC _ _ (by show _ < 6; omega)) rfl (jHs_od hs hx (by omega)) ?_
      refine j_iald X (q := 39) d_H_writerOfNext_38 rfl (by decide) rfl (Nat.lt_of_lt_of_le (bo _ (by omega)) bV) (hC _ _ (by decide)) rfl (jHs_W hs (bo _ (by omega))) ?_
      refine j_goto X (tgt := 43) d_H_writerOfNext_39 (by decide) ?_
      refine j_iret X d_H_writerOfNext_43 ?_
      exact ⟨some (hyW h (hyod h x 0)), rfl, rfl, fun w q => (by cases q; exact jHw_W hw (bo _ (by omega))), Or.inr ⟨0, by omega, Or.inl ⟨rfl, rfl⟩, rfl⟩⟩
set_option maxRecDepth 100000 in
set_option maxHeartbeats 4000000 in
theorem c_H_isJudgedRead {l : Launch} {Θ : jxT} (hI : jxI Θ) (hC : ∀ g r, r < jrwH g → Θ.2.2.2 g r) {h : jH} {σ : jxM} (hw : jHw h) (hs : jHs h σ) {r : Nat} (hr : r < hyR h) : jxMet l y_H_isJudgedRead b_H_isJudgedRead 2 (some FieldType.boolean) (jrm 2) Θ [.inr (1, 0), .inl (nI r)] σ (jan (jB (decide (hyS h (hyrd h r) = 2) && (hyrv h r).isSome)) σ) := by
  refine jxMet.of (own := "HistoryJudge$History") hI (by decide) rfl (Nat.le_of_ble_eq_true rfl) (fun Γ X => ?_)
  show jxW Γ Θ (jan (jB (decide (hyS h (hyrd h r) = 2) && (hyrv h r).isSome)) σ) 0 [some (.inr (1, 0)), some (.inl (nI r))] [] σ
  have bV := jHw_V hw
  have bR := jHw_R hw
  have b1 := jHw_rd hw hr
  have bm := vI_m1 (hyrv h r) (fun v hv => by have := (jHw_rv hw hr hv).1; omega)
  refine j_aload_n X (q := 1) d_H_isJudgedRead_0 rfl rfl ?_
  refine j_aload_n X (q := 2) d_H_isJudgedRead_1 rfl rfl ?_
  refine j_getR X (C := jR2) (T := jT2) (N := 12) (ci := 2) (j := 4) (q := 5) d_H_isJudgedRead_2 ju2 rfl rfl rfl (by decide) wl81 rfl (hC _ _ (by decide)) rfl ?_
  refine j_iload_n X (q := 6) d_H_isJudgedRead_5 rfl rfl ?_
  refine j_iald X (q := 7) d_H_isJudgedRead_6 rfl (by decide) rfl (by omega) (hC _ _ (by decide)) rfl (jHs_rd hs hr) ?_
  refine j_callV X (n := 1) (C := jR2) (T := jT2) (N := 12) d_H_isJudgedRead_7 (c_H_isCommitted hI hC hw hs b1) rfl rfl (hC _ _ (by decide)) wl259 wl210 wl211 wl37 wl212 (by decide +kernel) ⟨rfl, rfl⟩ (by decide) rfl rfl (Nat.le_of_ble_eq_true rfl) rfl (q := 10) rfl (fun r7 τ7 e7 => ?_)
  obtain ⟨rfl, rfl⟩ := e7
  refine j_bif_eq X (tgt := 27) (q := 13) d_H_isJudgedRead_10 (by decide) rfl (fun h10 => ?_) (fun h10 => ?_)
  · have _b10 := True.intro
    have b2 : (decide (hyS h (hyrd h r) = 2) && (hyrv h r).isSome) = false := by rw [h10]; rfl
    refine j_iconst X (v := (nI 0)) (q := 28) d_H_isJudgedRead_27 (by decide +kernel) rfl ?_
    refine j_zret X d_H_isJudgedRead_28 (by decide +kernel) ?_
    exact ⟨by rw [b2]; rfl, rfl⟩
  · have _b10 := True.intro
    refine j_aload_n X (q := 14) d_H_isJudgedRead_13 rfl rfl ?_
    refine j_getR X (C := jR2) (T := jT2) (N := 12) (ci := 2) (j := 6) (q := 17) d_H_isJudgedRead_14 ju2 rfl rfl rfl (by decide) wl87 rfl (hC _ _ (by decide)) rfl ?_
    refine j_iload_n X (q := 18) d_H_isJudgedRead_17 rfl rfl ?_
    refine j_iald X (q := 19) d_H_isJudgedRead_18 rfl (by decide) rfl (by omega) (hC _ _ (by decide)) rfl (jHs_rv hs hr) ?_
    refine j_iconst X (v := (-1)) (q := 20) d_H_isJudgedRead_19 (by decide +kernel) rfl ?_
    refine j_icmp_eq X (tgt := 27) (q := 23) d_H_isJudgedRead_20 (by decide) rfl (fun h20 => ?_) (fun h20 => ?_)
    · have _b20 := True.intro
      have b2 : (decide (hyS h (hyrd h r) = 2) && (hyrv h r).isSome) = false := by rw [bm.mp h20]; simp
      refine j_iconst X (v := (nI 0)) (q := 28) d_H_isJudgedRead_27 (by decide +kernel) rfl ?_
      refine j_zret X d_H_isJudgedRead_28 (by decide +kernel) ?_
      exact ⟨by rw [b2]; rfl, rfl⟩
    · have _b20 := True.intro
      have b2 : (decide (hyS h (hyrd h r) = 2) && (hyrv h r).isSome) = true := by
        rw [h10]
        cases e : hyrv h r with
        | some v => rfl
        | none => exact absurd (bm.mpr e) h20
      refine j_iconst X (v := (nI 1)) (q := 24) d_H_isJudgedRead_23 (by decide +kernel) rfl ?_
      refine j_goto X (tgt := 28) d_H_isJudgedRead_24 (by decide) ?_
      refine j_zret X d_H_isJudgedRead_28 (by decide +kernel) ?_
      exact ⟨by rw [b2]; rfl, rfl⟩
set_option maxRecDepth 100000 in
set_option maxHeartbeats 4000000 in
theorem c_H_isOfAnotherCommitted {l : Launch} {Θ : jxT} (hI : jxI Θ) (hC : ∀ g r, r < jrwH g → Θ.2.2.2 g r) {h : jH} {σ : jxM} (hw : jHw h) (hs : jHs h σ) {r : Nat} (hr : r < hyR h) {v : Nat} (hv : hyrv h r = some v) : jxMet l y_H_isOfAnotherCommitted b_H_isOfAnotherCommitted 3 (some FieldType.boolean) (jrm 2) Θ [.inr (1, 0), .inl (nI r)] σ (jan (jB (decide (hyW h v ≠ hyrd h r) && decide (hyS h (hyW h v) = 2))) σ) := by
  refine jxMet.of (own := "HistoryJudge$History") hI (by decide) rfl (Nat.le_of_ble_eq_true rfl) (fun Γ X => ?_)
  show jxW Γ Θ (jan (jB (decide (hyW h v ≠ hyrd h r) && decide (hyS h (hyW h v) = 2))) σ) 0 [some (.inr (1, 0)), some (.inl (nI r)), none] [] σ
  have bV := jHw_V hw
  have bR := jHw_R hw
  have b1 := jHw_rd hw hr
  have b0 := (jHw_rv hw hr hv).1
  have b3 := jHw_W hw b0
  have er : σ 7 0 r = nI v := by rw [jHs_rv hs hr, hv]; rfl
  refine j_aload_n X (q := 1) d_H_isOfAnotherCommitted_0 rfl rfl ?_
  refine j_getR X (C := jR2) (T := jT2) (N := 12) (ci := 2) (j := 1) (q := 4) d_H_isOfAnotherCommitted_1 ju2 rfl rfl rfl (by decide) wl75 rfl (hC _ _ (by decide)) rfl ?_
  refine j_aload_n X (q := 5) d_H_isOfAnotherCommitted_4 rfl rfl ?_
  refine j_getR X (C := jR2) (T := jT2) (N := 12) (ci := 2) (j := 6) (q := 8) d_H_isOfAnotherCommitted_5 ju2 rfl rfl rfl (by decide) wl87 rfl (hC _ _ (by decide)) rfl ?_
  refine j_iload_n X (q := 9) d_H_isOfAnotherCommitted_8 rfl rfl ?_
  refine j_iald X (q := 10) d_H_isOfAnotherCommitted_9 rfl (by decide) rfl (by omega) (hC _ _ (by decide)) rfl er ?_
  refine j_iald X (q := 11) d_H_isOfAnotherCommitted_10 rfl (by decide) rfl (by omega) (hC _ _ (by decide)) rfl (jHs_W hs b0) ?_
  refine j_istore_n X (j := 2) (q := 12) d_H_isOfAnotherCommitted_11 rfl (Nat.le_of_ble_eq_true rfl) rfl ?_
  refine j_iload_n X (q := 13) d_H_isOfAnotherCommitted_12 rfl rfl ?_
  refine j_aload_n X (q := 14) d_H_isOfAnotherCommitted_13 rfl rfl ?_
  refine j_getR X (C := jR2) (T := jT2) (N := 12) (ci := 2) (j := 4) (q := 17) d_H_isOfAnotherCommitted_14 ju2 rfl rfl rfl (by decide) wl81 rfl (hC _ _ (by decide)) rfl ?_
  refine j_iload_n X (q := 18) d_H_isOfAnotherCommitted_17 rfl rfl ?_
  refine j_iald X (q := 19) d_H_isOfAnotherCommitted_18 rfl (by decide) rfl (by omega) (hC _ _ (by decide)) rfl (jHs_rd hs hr) ?_
  refine j_ncmp_eq X (tgt := 34) (q := 22) d_H_isOfAnotherCommitted_19 (by decide) rfl (by omega) (by omega) (fun h19 => ?_) (fun h19 => ?_)
  · have _b19 := True.intro
    have b2 : (decide (hyW h v ≠ hyrd h r) && decide (hyS h (hyW h v) = 2)) = false := by simp [h19]
    refine j_iconst X (v := (nI 0)) (q := 35) d_H_isOfAnotherCommitted_34 (by decide +kernel) rfl ?_
    refine j_zret X d_H_isOfAnotherCommitted_35 (by decide +kernel) ?_
    exact ⟨by rw [b2]; rfl, rfl⟩
  · have _b19 := True.intro
    refine j_aload_n X (q := 23) d_H_isOfAnotherCommitted_22 rfl rfl ?_
    refine j_iload_n X (q := 24) d_H_isOfAnotherCommitted_23 rfl rfl ?_
    refine j_callV X (n := 1) (C := jR2) (T := jT2) (N := 12) d_H_isOfAnotherCommitted_24 (c_H_isCommitted hI hC hw hs b3) rfl rfl (hC _ _ (by decide)) wl259 wl210 wl211 wl37 wl212 (by decide +kernel) ⟨rfl, rfl⟩ (by decide) rfl rfl (Nat.le_of_ble_eq_true rfl) rfl (q := 27) rfl (fun r24 τ24 e24 => ?_)
    obtain ⟨rfl, rfl⟩ := e24
    refine j_bif_eq X (tgt := 34) (q := 30) d_H_isOfAnotherCommitted_27 (by decide) rfl (fun h27 => ?_) (fun h27 => ?_)
    · have _b27 := True.intro
      have b2 : (decide (hyW h v ≠ hyrd h r) && decide (hyS h (hyW h v) = 2)) = false := by rw [h27]; simp
      refine j_iconst X (v := (nI 0)) (q := 35) d_H_isOfAnotherCommitted_34 (by decide +kernel) rfl ?_
      refine j_zret X d_H_isOfAnotherCommitted_35 (by decide +kernel) ?_
      exact ⟨by rw [b2]; rfl, rfl⟩
    · have _b27 := True.intro
      have b2 : (decide (hyW h v ≠ hyrd h r) && decide (hyS h (hyW h v) = 2)) = true := by rw [h27]; simp [h19]
      refine j_iconst X (v := (nI 1)) (q := 31) d_H_isOfAnotherCommitted_30 (by decide +kernel) rfl ?_
      refine j_goto X (tgt := 35) d_H_isOfAnotherCommitted_31 (by decide) ?_
      refine j_zret X d_H_isOfAnotherCommitted_35 (by decide +kernel) ?_
      exact ⟨by rw [b2]; rfl, rfl⟩
/-- read r is one by a committed transaction of a version that somebody wrote and that did not commit -/
def jab (h : jH) (r : Nat) : Prop := hyS h (hyrd h r) = 2 ∧ ∃ v, hyrv h r = some v ∧ hyS h (hyW h v) ≠ 2
/-- read r is one by a committed transaction of another committed one's version that is not final -/
def jun (h : jH) (r : Nat) : Prop := hyS h (hyrd h r) = 2 ∧ ∃ v, hyrv h r = some v ∧ hyW h v ≠ hyrd h r ∧ hyS h (hyW h v) = 2 ∧ hylt h (hyW h v) (hyI h v) ≠ some v
set_option maxRecDepth 100000 in
set_option maxHeartbeats 4000000 in
theorem c_H_hasAbortedRead {l : Launch} {Θ : jxT} (hI : jxI Θ) (hC : ∀ g r, r < jrwH g → Θ.2.2.2 g r) {h : jH} {σ : jxM} (hw : jHw h) (hs : jHs h σ)  : jxMet l y_H_hasAbortedRead b_H_hasAbortedRead 2 (some FieldType.boolean) (jrm 3) Θ [.inr (1, 0)] σ (jan (jB (jd (∃ r, r < hyR h ∧ jab h r))) σ) := by
  refine jxMet.of (own := "HistoryJudge$History") hI (by decide) rfl (Nat.le_of_ble_eq_true rfl) (fun Γ X => ?_)
  show jxW Γ Θ (jan (jB (jd (∃ r, r < hyR h ∧ jab h r))) σ) 0 [some (.inr (1, 0)), none] [] σ
  have bV := jHw_V hw
  have bR := jHw_R hw
  have K : ∀ (N : Nat) (r : Nat), hyR h - r < N → r ≤ hyR h → (∀ j, j < r → ¬ jab h j) → jxW Γ Θ (jan (jB (jd (∃ r, r < hyR h ∧ jab h r))) σ) 2 [some (.inr (1, 0)), some (.inl (nI r))] [] σ := by
    intro N
    induction N with
    | zero => intro r hn; exact absurd hn (Nat.not_lt_zero _)
    | succ N ih =>
      intro r hn hr hno
      refine j_iload_n X (q := 3) d_H_hasAbortedRead_2 rfl rfl ?_
      refine j_aload_n X (q := 4) d_H_hasAbortedRead_3 rfl rfl ?_
      refine j_getI X (C := jR2) (T := jT2) (N := 12) (ci := 2) (j := 8) (q := 7) d_H_hasAbortedRead_4 ju2 rfl rfl rfl (by decide) wl92 rfl (hC _ _ (by decide)) rfl (jHs_R hs) ?_
      refine j_ncmp_ge X (tgt := 44) (q := 10) d_H_hasAbortedRead_7 (by decide) rfl (by omega) (by omega) (fun h7 => ?_) (fun h7 => ?_)
      · have _b7 := True.intro
        refine j_iconst X (v := (nI 0)) (q := 45) d_H_hasAbortedRead_44 (by decide +kernel) rfl ?_
        refine j_zret X d_H_hasAbortedRead_45 (by decide +kernel) ?_
        exact ⟨by rw [jd_no.mpr (fun ⟨j, hj, q⟩ => hno j (by omega) q)]; rfl, rfl⟩
      · have _b7 := True.intro
        refine j_aload_n X (q := 11) d_H_hasAbortedRead_10 rfl rfl ?_
        refine j_iload_n X (q := 12) d_H_hasAbortedRead_11 rfl rfl ?_
        refine j_callV X (n := 1) (C := jR2) (T := jT2) (N := 12) d_H_hasAbortedRead_12 (c_H_isJudgedRead hI hC hw hs (r := r) (by omega)) rfl rfl (hC _ _ (by decide)) wl256 wl257 wl6 wl37 wl258 (by decide +kernel) ⟨rfl, rfl⟩ (by decide) rfl rfl (Nat.le_of_ble_eq_true rfl) rfl (q := 15) rfl (fun r12 τ12 e12 => ?_)
        obtain ⟨rfl, rfl⟩ := e12
        refine j_bif_eq X (tgt := 38) (q := 18) d_H_hasAbortedRead_15 (by decide) rfl (fun h15 => ?_) (fun h15 => ?_)
        · have _b15 := True.intro
          refine j_iinc X (q := 41) d_H_hasAbortedRead_38 rfl (j_inc1 _) rfl ?_
          refine j_goto X (tgt := 2) d_H_hasAbortedRead_41 (by decide) ?_
          exact ih (r + 1) (by omega) (by omega) (fun j hj => by
            by_cases q : j = r
            · rw [q]; exact (fun q => by obtain ⟨q1, v, q2, -⟩ := q; rw [q1, q2] at h15; cases h15)
            · exact hno j (by omega))
        · have _b15 := True.intro
          obtain ⟨v, hv⟩ : ∃ v, hyrv h r = some v := by
            rw [Bool.and_eq_true] at h15
            exact Option.isSome_iff_exists.mp h15.2
          have hc : hyS h (hyrd h r) = 2 := by
            rw [Bool.and_eq_true, decide_eq_true_eq] at h15
            exact h15.1
          have b0 := (jHw_rv hw (show r < hyR h by omega) hv).1
          have b3 := jHw_W hw b0
          have er : σ 7 0 r = nI v := by rw [jHs_rv hs (show r < hyR h by omega), hv]; rfl
          refine j_aload_n X (q := 19) d_H_hasAbortedRead_18 rfl rfl ?_
          refine j_aload_n X (q := 20) d_H_hasAbortedRead_19 rfl rfl ?_
          refine j_getR X (C := jR2) (T := jT2) (N := 12) (ci := 2) (j := 1) (q := 23) d_H_hasAbortedRead_20 ju2 rfl rfl rfl (by decide) wl75 rfl (hC _ _ (by decide)) rfl ?_
          refine j_aload_n X (q := 24) d_H_hasAbortedRead_23 rfl rfl ?_
          refine j_getR X (C := jR2) (T := jT2) (N := 12) (ci := 2) (j := 6) (q := 27) d_H_hasAbortedRead_24 ju2 rfl rfl rfl (by decide) wl87 rfl (hC _ _ (by decide)) rfl ?_
          refine j_iload_n X (q := 28) d_H_hasAbortedRead_27 rfl rfl ?_
          refine j_iald X (q := 29) d_H_hasAbortedRead_28 rfl (by decide) rfl (by omega) (hC _ _ (by decide)) rfl er ?_
          refine j_iald X (q := 30) d_H_hasAbortedRead_29 rfl (by decide) rfl (by omega) (hC _ _ (by decide)) rfl (jHs_W hs b0) ?_
          refine j_callV X (n := 1) (C := jR2) (T := jT2) (N := 12) d_H_hasAbortedRead_30 (c_H_isCommitted hI hC hw hs b3) rfl rfl (hC _ _ (by decide)) wl259 wl210 wl211 wl37 wl212 (by decide +kernel) ⟨rfl, rfl⟩ (by decide) rfl rfl (Nat.le_of_ble_eq_true rfl) rfl (q := 33) rfl (fun r30 τ30 e30 => ?_)
          obtain ⟨rfl, rfl⟩ := e30
          refine j_bif_ne X (tgt := 38) (q := 36) d_H_hasAbortedRead_33 (by decide) rfl (fun h33 => ?_) (fun h33 => ?_)
          · have _b33 := True.intro
            refine j_iinc X (q := 41) d_H_hasAbortedRead_38 rfl (j_inc1 _) rfl ?_
            refine j_goto X (tgt := 2) d_H_hasAbortedRead_41 (by decide) ?_
            exact ih (r + 1) (by omega) (by omega) (fun j hj => by
              by_cases q : j = r
              · rw [q]; exact (fun q => by obtain ⟨q1, w, q2, q3⟩ := q; rw [hv] at q2; cases q2; exact q3 (by simpa using h33))
              · exact hno j (by omega))
          · have _b33 := True.intro
            refine j_iconst X (v := (nI 1)) (q := 37) d_H_hasAbortedRead_36 (by decide +kernel) rfl ?_
            refine j_zret X d_H_hasAbortedRead_37 (by decide +kernel) ?_
            exact ⟨by rw [jd_iff.mpr ⟨r, by omega, hc, v, hv, by simpa using h33⟩]; rfl, rfl⟩
  refine j_iconst X (v := (nI 0)) (q := 1) d_H_hasAbortedRead_0 (by decide +kernel) rfl ?_
  refine j_istore_n X (j := 1) (q := 2) d_H_hasAbortedRead_1 rfl (Nat.le_of_ble_eq_true rfl) rfl ?_
  exact K 61 0 (by omega) (by omega) (fun j hj => by omega)
set_option maxRecDepth 100000 in
set_option maxHeartbeats 4000000 in
theorem c_H_hasUnfinishedRead {l : Launch} {Θ : jxT} (hI : jxI Θ) (hC : ∀ g r, r < jrwH g → Θ.2.2.2 g r) {h : jH} {σ : jxM} (hw : jHw h) (hs : jHs h σ)  : jxMet l y_H_hasUnfinishedRead b_H_hasUnfinishedRead 2 (some FieldType.boolean) (jrm 3) Θ [.inr (1, 0)] σ (jan (jB (jd (∃ r, r < hyR h ∧ jun h r))) σ) := by
  refine jxMet.of (own := "HistoryJudge$History") hI (by decide) rfl (Nat.le_of_ble_eq_true rfl) (fun Γ X => ?_)
  show jxW Γ Θ (jan (jB (jd (∃ r, r < hyR h ∧ jun h r))) σ) 0 [some (.inr (1, 0)), none] [] σ
  have bV := jHw_V hw
  have bR := jHw_R hw
  have K : ∀ (N : Nat) (r : Nat), hyR h - r < N → r ≤ hyR h → (∀ j, j < r → ¬ jun h j) → jxW Γ Θ (jan (jB (jd (∃ r, r < hyR h ∧ jun h r))) σ) 2 [some (.inr (1, 0)), some (.inl (nI r))] [] σ := by
    intro N
    induction N with
    | zero => intro r hn; exact absurd hn (Nat.not_lt_zero _)
    | succ N ih =>
      intro r hn hr hno
      refine j_iload_n X (q := 3) d_H_hasUnfinishedRead_2 rfl rfl ?_
      refine j_aload_n X (q := 4) d_H_hasUnfinishedRead_3 rfl rfl ?_
      refine j_getI X (C := jR2) (T := jT2) (N := 12) (ci := 2) (j := 8) (q := 7) d_H_hasUnfinishedRead_4 ju2 rfl rfl rfl (by decide) wl92 rfl (hC _ _ (by decide)) rfl (jHs_R hs) ?_
      refine j_ncmp_ge X (tgt := 47) (q := 10) d_H_hasUnfinishedRead_7 (by decide) rfl (by omega) (by omega) (fun h7 => ?_) (fun h7 => ?_)
      · have _b7 := True.intro
        refine j_iconst X (v := (nI 0)) (q := 48) d_H_hasUnfinishedRead_47 (by decide +kernel) rfl ?_
        refine j_zret X d_H_hasUnfinishedRead_48 (by decide +kernel) ?_
        exact ⟨by rw [jd_no.mpr (fun ⟨j, hj, q⟩ => hno j (by omega) q)]; rfl, rfl⟩
      · have _b7 := True.intro
        refine j_aload_n X (q := 11) d_H_hasUnfinishedRead_10 rfl rfl ?_
        refine j_iload_n X (q := 12) d_H_hasUnfinishedRead_11 rfl rfl ?_
        refine j_callV X (n := 1) (C := jR2) (T := jT2) (N := 12) d_H_hasUnfinishedRead_12 (c_H_isJudgedRead hI hC hw hs (r := r) (by omega)) rfl rfl (hC _ _ (by decide)) wl256 wl257 wl6 wl37 wl258 (by decide +kernel) ⟨rfl, rfl⟩ (by decide) rfl rfl (Nat.le_of_ble_eq_true rfl) rfl (q := 15) rfl (fun r12 τ12 e12 => ?_)
        obtain ⟨rfl, rfl⟩ := e12
        refine j_bif_eq X (tgt := 41) (q := 18) d_H_hasUnfinishedRead_15 (by decide) rfl (fun h15 => ?_) (fun h15 => ?_)
        · have _b15 := True.intro
          refine j_iinc X (q := 44) d_H_hasUnfinishedRead_41 rfl (j_inc1 _) rfl ?_
          refine j_goto X (tgt := 2) d_H_hasUnfinishedRead_44 (by decide) ?_
          exact ih (r + 1) (by omega) (by omega) (fun j hj => by
            by_cases q : j = r
            · rw [q]; exact (fun q => by obtain ⟨q1, v, q2, -⟩ := q; rw [q1, q2] at h15; cases h15)
            · exact hno j (by omega))
        · have _b15 := True.intro
          obtain ⟨v, hv⟩ : ∃ v, hyrv h r = some v := by
            rw [Bool.and_eq_true] at h15
            exact Option.isSome_iff_exists.mp h15.2
          have hc : hyS h (hyrd h r) = 2 := by
            rw [Bool.and_eq_true, decide_eq_true_eq] at h15
            exact h15.1
          have b0 := (jHw_rv hw (show r < hyR h by omega) hv).1
          have b3 := jHw_W hw b0
          have er : σ 7 0 r = nI v := by rw [jHs_rv hs (show r < hyR h by omega), hv]; rfl
          refine j_aload_n X (q := 19) d_H_hasUnfinishedRead_18 rfl rfl ?_
          refine j_iload_n X (q := 20) d_H_hasUnfinishedRead_19 rfl rfl ?_
          refine j_callV X (n := 1) (C := jR2) (T := jT2) (N := 12) d_H_hasUnfinishedRead_20 (c_H_isOfAnotherCommitted hI hC hw hs (r := r) (by omega) hv) rfl rfl (hC _ _ (by decide)) wl264 wl265 wl7 wl37 wl266 (by decide +kernel) ⟨rfl, rfl⟩ (by decide) rfl rfl (Nat.le_of_ble_eq_true rfl) rfl (q := 23) rfl (fun r20 τ20 e20 => ?_)
          obtain ⟨rfl, rfl⟩ := e20
          refine j_bif_eq X (tgt := 41) (q := 26) d_H_hasUnfinishedRead_23 (by decide) rfl (fun h23 => ?_) (fun h23 => ?_)
          · have _b23 := True.intro
            refine j_iinc X (q := 44) d_H_hasUnfinishedRead_41 rfl (j_inc1 _) rfl ?_
            refine j_goto X (tgt := 2) d_H_hasUnfinishedRead_44 (by decide) ?_
            exact ih (r + 1) (by omega) (by omega) (fun j hj => by
              by_cases q : j = r
              · rw [q]; exact (fun q => by obtain ⟨q1, w, q2, q3, q4, -⟩ := q; rw [hv] at q2; cases q2; rw [decide_eq_true q3, decide_eq_true q4] at h23; cases h23)
              · exact hno j (by omega))
          · have _b23 := True.intro
            refine j_aload_n X (q := 27) d_H_hasUnfinishedRead_26 rfl rfl ?_
            refine j_aload_n X (q := 28) d_H_hasUnfinishedRead_27 rfl rfl ?_
            refine j_getR X (C := jR2) (T := jT2) (N := 12) (ci := 2) (j := 6) (q := 31) d_H_hasUnfinishedRead_28 ju2 rfl rfl rfl (by decide) wl87 rfl (hC _ _ (by decide)) rfl ?_
            refine j_iload_n X (q := 32) d_H_hasUnfinishedRead_31 rfl rfl ?_
            refine j_iald X (q := 33) d_H_hasUnfinishedRead_32 rfl (by decide) rfl (by omega) (hC _ _ (by decide)) rfl er ?_
            refine j_callV X (n := 1) (C := jR2) (T := jT2) (N := 12) d_H_hasUnfinishedRead_33 (c_H_isFinal hI hC hw hs b0) rfl rfl (hC _ _ (by decide)) wl267 wl268 wl269 wl37 wl270 (by decide +kernel) ⟨rfl, rfl⟩ (by decide) rfl rfl (Nat.le_of_ble_eq_true rfl) rfl (q := 36) rfl (fun r33 τ33 e33 => ?_)
            obtain ⟨rfl, rfl⟩ := e33
            refine j_bif_ne X (tgt := 41) (q := 39) d_H_hasUnfinishedRead_36 (by decide) rfl (fun h36 => ?_) (fun h36 => ?_)
            · have _b36 := True.intro
              refine j_iinc X (q := 44) d_H_hasUnfinishedRead_41 rfl (j_inc1 _) rfl ?_
              refine j_goto X (tgt := 2) d_H_hasUnfinishedRead_44 (by decide) ?_
              exact ih (r + 1) (by omega) (by omega) (fun j hj => by
                by_cases q : j = r
                · rw [q]; exact (fun q => by obtain ⟨q1, w, q2, q3, q4, q5⟩ := q; rw [hv] at q2; cases q2; exact q5 (by simpa using h36))
                · exact hno j (by omega))
            · have _b36 := True.intro
              refine j_iconst X (v := (nI 1)) (q := 40) d_H_hasUnfinishedRead_39 (by decide +kernel) rfl ?_
              refine j_zret X d_H_hasUnfinishedRead_40 (by decide +kernel) ?_
              rw [Bool.and_eq_true, decide_eq_true_eq, decide_eq_true_eq] at h23
              exact ⟨by rw [jd_iff.mpr ⟨r, by omega, hc, v, hv, h23.1, h23.2, by simpa using h36⟩]; rfl, rfl⟩
  refine j_iconst X (v := (nI 0)) (q := 1) d_H_hasUnfinishedRead_0 (by decide +kernel) rfl ?_
  refine j_istore_n X (j := 1) (q := 2) d_H_hasUnfinishedRead_1 rfl (Nat.le_of_ble_eq_true rfl) rfl ?_
  exact K 61 0 (by omega) (by omega) (fun j hj => by omega)
end
section
/-! The history's moves, purely: a write, a read, a commit, an exchange, a new beginning; what the cells hold behind them. -/
def jup {α : Type} (f : Nat → α) (k : Nat) (v : α) : Nat → α := fun j => if j = k then v else f j
def jh0 : jH := (fun _ => 0, 0, fun _ => 0, fun _ => 0, 0, fun _ => 0, fun _ => 0, fun _ => none, fun _ => none, fun _ _ => none, fun _ => 0, fun _ _ => 0)
def jaddV (h : jH) (t x : Nat) : jH := (jup (hyS h) t 1, hyV h + 1, jup (hyW h) (hyV h) t, jup (hyI h) (hyV h) x, hyR h, hyrd h, hyri h, hyrv h, hyro h, (fun t' x' => if t' = t ∧ x' = x then some (hyV h) else hylt h t' x'), hyon h, hyod h)
def jaddR (h : jH) (t x : Nat) (o : Option Nat) : jH := (jup (hyS h) t 1, hyV h, hyW h, hyI h, hyR h + 1, jup (hyrd h) (hyR h) t, jup (hyri h) (hyR h) x, jup (hyrv h) (hyR h) o, jup (hyro h) (hyR h) (hylt h t x), hylt h, hyon h, hyod h)
def jcomP (h : jH) (t k : Nat) : jH := (jup (hyS h) t 2, hyV h, hyW h, hyI h, hyR h, hyrd h, hyri h, hyrv h, hyro h, hylt h, (fun x => if x < k ∧ (hylt h t x).isSome = true then hyon h x + 1 else hyon h x), (fun x i => if x < k ∧ i = hyon h x then (hylt h t x).getD (hyod h x i) else hyod h x i))
def jend (h : jH) (t s : Nat) : jH := (jup (hyS h) t s, hyV h, hyW h, hyI h, hyR h, hyrd h, hyri h, hyrv h, hyro h, hylt h, hyon h, hyod h)
def jexc (h : jH) (x i : Nat) : jH := (hyS h, hyV h, hyW h, hyI h, hyR h, hyrd h, hyri h, hyrv h, hyro h, hylt h, hyon h, (fun x' j => if x' = x ∧ j = i then hyod h x (i + 1) else if x' = x ∧ j = i + 1 then hyod h x i else hyod h x' j))
theorem jcomP_0 (h : jH) (t : Nat) : jcomP h t 0 = jend h t 2 := by simp [jcomP, jend]
theorem jcomP_no {h : jH} {t k : Nat} (e : hylt h t k = none) : jcomP h t (k + 1) = jcomP h t k := by
  unfold jcomP
  have e1 : (fun x => if x < k + 1 ∧ (hylt h t x).isSome = true then hyon h x + 1 else hyon h x) = (fun x => if x < k ∧ (hylt h t x).isSome = true then hyon h x + 1 else hyon h x) := by
    funext x
    by_cases q : x = k
    · subst q; simp [e]
    · by_cases z : x < k
      · simp [z, Nat.lt_succ_of_lt z]
      · have : ¬ x < k + 1 := by omega
        simp [z, this]
  have e2 : (fun x i => if x < k + 1 ∧ i = hyon h x then (hylt h t x).getD (hyod h x i) else hyod h x i) = (fun x i => if x < k ∧ i = hyon h x then (hylt h t x).getD (hyod h x i) else hyod h x i) := by
    funext x i
    by_cases q : x = k
    · subst q; simp [e]
    · by_cases z : x < k
      · simp [z, Nat.lt_succ_of_lt z]
      · have : ¬ x < k + 1 := by omega
        simp [z, this]
  rw [e1, e2]
theorem jHs_0 {σ σ' : jxM} (e : σ' = fun g r j => if g = 10 ∧ r < 8 ∧ j < 6 then -1 else jfl (jfl (jxs (jxs σ 1 0 3 (nI 0)) 1 0 8 (nI 0)) 2 0 8 (nI 0)) 13 0 6 (nI 0) g r j) : jHs jh0 σ' := by
  subst e
  refine ⟨?_, ?_, fun t ht => ?_, fun v hv => absurd hv (Nat.not_lt_zero _), fun r hr => absurd hr (Nat.not_lt_zero _), fun t x ht hx => ?_, fun x hx => ?_, fun x i hx hi => absurd hi (Nat.not_lt_zero _)⟩
  · simp [jfl, jxs_at]; rfl
  · simp [jfl, jxs_at]; rfl
  · simp [jfl, ht]; rfl
  · simp [ht, hx]; rfl
  · simp [jfl, hx]; rfl
section JMV
variable {h : jH} {σ : jxM}
theorem jHs_addV (hs : jHs h σ) {t x : Nat} : jHs (jaddV h t x) (jxs (jxs (jxs (jxs (jxs σ 3 0 (hyV h) (nI t)) 4 0 (hyV h) (nI x)) 10 t x (nI (hyV h))) 2 0 t (nI 1)) 1 0 3 (nI (hyV h + 1))) := by
  refine ⟨?_, ?_, fun t' ht' => ?_, fun v hv => ⟨?_, ?_⟩, fun r hr => ⟨?_, ?_, ?_, ?_⟩, fun t' x' ht' hx' => ?_, fun x' hx' => ?_, fun x' i' hx' hi' => ?_⟩
  · show _ = nI (hyV h + 1)
    simp [jxs_at]
  · show _ = nI (hyR h)
    simp [jxs_at]
    exact jHs_R hs
  · show _ = nI (jup (hyS h) t 1 t')
    by_cases e : t' = t
    · subst e; simp [jxs_at, jup]
    · simp [jxs_at, jup, e]; exact jHs_S hs ht'
  · have hz : v < hyV h + 1 := hv
    show _ = nI (jup (hyW h) (hyV h) (t) v)
    by_cases e : v = hyV h
    · subst e; simp [jxs_at, jup]
    · simp [jxs_at, jup, e]; exact jHs_W hs (by omega)
  · have hz : v < hyV h + 1 := hv
    show _ = nI (jup (hyI h) (hyV h) (x) v)
    by_cases e : v = hyV h
    · subst e; simp [jxs_at, jup]
    · simp [jxs_at, jup, e]; exact jHs_I hs (by omega)
  · show _ = nI (hyrd h r)
    simp [jxs_at]
    exact jHs_rd hs hr
  · show _ = nI (hyri h r)
    simp [jxs_at]
    exact jHs_ri hs hr
  · show _ = vI (hyrv h r)
    simp [jxs_at]
    exact jHs_rv hs hr
  · show _ = vI (hyro h r)
    simp [jxs_at]
    exact jHs_ro hs hr
  · show _ = vI (if t' = t ∧ x' = x then some (hyV h) else hylt h t' x')
    by_cases e : t' = t ∧ x' = x
    · obtain ⟨rfl, rfl⟩ := e; simp [jxs_at, vI]
    · have e2 : ¬ (True ∧ t' = t ∧ x' = x) := fun q => e q.2
      simp only [jxs_at]
      rw [if_neg (by omega), if_neg (by omega), if_neg e2, if_neg (by omega), if_neg (by omega), if_neg e]
      exact jHs_lt hs ht' hx'
  · show _ = nI (hyon h x')
    simp [jxs_at]
    exact jHs_on hs hx'
  · show _ = nI (hyod h x' i')
    simp [jxs_at]
    exact jHs_od hs hx' hi'
theorem jHs_addR (hs : jHs h σ) {t x : Nat} {o : Option Nat} : jHs (jaddR h t x o) (jxs (jxs (jxs (jxs (jxs (jxs σ 5 0 (hyR h) (nI t)) 6 0 (hyR h) (nI x)) 7 0 (hyR h) (vI o)) 8 0 (hyR h) (vI (hylt h t x))) 2 0 t (nI 1)) 1 0 8 (nI (hyR h + 1))) := by
  refine ⟨?_, ?_, fun t' ht' => ?_, fun v hv => ⟨?_, ?_⟩, fun r hr => ⟨?_, ?_, ?_, ?_⟩, fun t' x' ht' hx' => ?_, fun x' hx' => ?_, fun x' i' hx' hi' => ?_⟩
  · show _ = nI (hyV h)
    simp [jxs_at]
    exact jHs_V hs
  · show _ = nI (hyR h + 1)
    simp [jxs_at]
  · show _ = nI (jup (hyS h) t 1 t')
    by_cases e : t' = t
    · subst e; simp [jxs_at, jup]
    · simp [jxs_at, jup, e]; exact jHs_S hs ht'
  · show _ = nI (hyW h v)
    simp [jxs_at]
    exact jHs_W hs hv
  · show _ = nI (hyI h v)
    simp [jxs_at]
    exact jHs_I hs hv
  · have hz : r < hyR h + 1 := hr
    show _ = nI (jup (hyrd h) (hyR h) (t) r)
    by_cases e : r = hyR h
    · subst e; simp [jxs_at, jup]
    · simp [jxs_at, jup, e]; exact jHs_rd hs (by omega)
  · have hz : r < hyR h + 1 := hr
    show _ = nI (jup (hyri h) (hyR h) (x) r)
    by_cases e : r = hyR h
    · subst e; simp [jxs_at, jup]
    · simp [jxs_at, jup, e]; exact jHs_ri hs (by omega)
  · have hz : r < hyR h + 1 := hr
    show _ = vI (jup (hyrv h) (hyR h) (o) r)
    by_cases e : r = hyR h
    · subst e; simp [jxs_at, jup]
    · simp [jxs_at, jup, e]; exact jHs_rv hs (by omega)
  · have hz : r < hyR h + 1 := hr
    show _ = vI (jup (hyro h) (hyR h) (hylt h t x) r)
    by_cases e : r = hyR h
    · subst e; simp [jxs_at, jup]
    · simp [jxs_at, jup, e]; exact jHs_ro hs (by omega)
  · show _ = vI (hylt h t' x')
    simp [jxs_at]
    exact jHs_lt hs ht' hx'
  · show _ = nI (hyon h x')
    simp [jxs_at]
    exact jHs_on hs hx'
  · show _ = nI (hyod h x' i')
    simp [jxs_at]
    exact jHs_od hs hx' hi'
theorem jHs_end (hs : jHs h σ) {t s : Nat} : jHs (jend h t s) (jxs σ 2 0 t (nI s)) := by
  refine ⟨?_, ?_, fun t' ht' => ?_, fun v hv => ⟨?_, ?_⟩, fun r hr => ⟨?_, ?_, ?_, ?_⟩, fun t' x' ht' hx' => ?_, fun x' hx' => ?_, fun x' i' hx' hi' => ?_⟩
  · show _ = nI (hyV h)
    simp [jxs_at]
    exact jHs_V hs
  · show _ = nI (hyR h)
    simp [jxs_at]
    exact jHs_R hs
  · show _ = nI (jup (hyS h) t s t')
    by_cases e : t' = t
    · subst e; simp [jxs_at, jup]
    · simp [jxs_at, jup, e]; exact jHs_S hs ht'
  · show _ = nI (hyW h v)
    simp [jxs_at]
    exact jHs_W hs hv
  · show _ = nI (hyI h v)
    simp [jxs_at]
    exact jHs_I hs hv
  · show _ = nI (hyrd h r)
    simp [jxs_at]
    exact jHs_rd hs hr
  · show _ = nI (hyri h r)
    simp [jxs_at]
    exact jHs_ri hs hr
  · show _ = vI (hyrv h r)
    simp [jxs_at]
    exact jHs_rv hs hr
  · show _ = vI (hyro h r)
    simp [jxs_at]
    exact jHs_ro hs hr
  · show _ = vI (hylt h t' x')
    simp [jxs_at]
    exact jHs_lt hs ht' hx'
  · show _ = nI (hyon h x')
    simp [jxs_at]
    exact jHs_on hs hx'
  · show _ = nI (hyod h x' i')
    simp [jxs_at]
    exact jHs_od hs hx' hi'
theorem jHs_com {t k v : Nat} (hs : jHs (jcomP h t k) σ) (e : hylt h t k = some v) : jHs (jcomP h t (k + 1)) (jxs (jxs σ 12 k (hyon h k) (nI v)) 13 0 k (nI (hyon h k + 1))) := by
  have on1 : ∀ x, hyon (jcomP h t (k + 1)) x = if x = k then hyon h k + 1 else hyon (jcomP h t k) x := by
    intro x
    show (if x < k + 1 ∧ (hylt h t x).isSome = true then hyon h x + 1 else hyon h x) = if x = k then hyon h k + 1 else (if x < k ∧ (hylt h t x).isSome = true then hyon h x + 1 else hyon h x)
    by_cases q : x = k
    · subst q; simp [e]
    · by_cases z : x < k
      · simp [q, z, Nat.lt_succ_of_lt z]
      · have : ¬ x < k + 1 := by omega
        simp [q, z, this]
  have od1 : ∀ x i, hyod (jcomP h t (k + 1)) x i = if x = k ∧ i = hyon h k then v else hyod (jcomP h t k) x i := by
    intro x i
    show (if x < k + 1 ∧ i = hyon h x then (hylt h t x).getD (hyod h x i) else hyod h x i) = if x = k ∧ i = hyon h k then v else (if x < k ∧ i = hyon h x then (hylt h t x).getD (hyod h x i) else hyod h x i)
    by_cases q : x = k
    · subst q
      by_cases z : i = hyon h x <;> simp [e, z]
    · by_cases z : x < k
      · simp [q, z, Nat.lt_succ_of_lt z]
      · have : ¬ x < k + 1 := by omega
        simp [q, z, this]
  have onk : hyon (jcomP h t k) k = hyon h k := by
    show (if k < k ∧ _ then _ else _) = _
    simp
  refine ⟨?_, ?_, fun t' ht' => ?_, fun v hv => ⟨?_, ?_⟩, fun r hr => ⟨?_, ?_, ?_, ?_⟩, fun t' x' ht' hx' => ?_, fun x' hx' => ?_, fun x' i hx' hi => ?_⟩
  · show _ = nI (hyV (jcomP h t k))
    simp [jxs_at]; exact jHs_V hs
  · show _ = nI (hyR (jcomP h t k))
    simp [jxs_at]; exact jHs_R hs
  · simp [jxs_at]; exact jHs_S hs ht'
  · simp [jxs_at]; exact jHs_W hs hv
  · simp [jxs_at]; exact jHs_I hs hv
  · simp [jxs_at]; exact jHs_rd hs hr
  · simp [jxs_at]; exact jHs_ri hs hr
  · simp [jxs_at]; exact jHs_rv hs hr
  · simp [jxs_at]; exact jHs_ro hs hr
  · simp [jxs_at]; exact jHs_lt hs ht' hx'
  · rw [on1]
    by_cases q : x' = k
    · subst q; simp [jxs_at]
    · simp [jxs_at, q]; exact jHs_on hs hx'
  · rw [on1] at hi
    rw [od1]
    by_cases q : x' = k
    · subst q
      rw [if_pos rfl] at hi
      by_cases z : i = hyon h x'
      · simp [jxs_at, z]
      · simp [jxs_at, z]
        exact jHs_od hs hx' (by rw [onk]; omega)
    · rw [if_neg q] at hi
      simp [jxs_at, q]; exact jHs_od hs hx' hi
theorem jHs_exc (hs : jHs h σ) {x i : Nat} (hi : i + 1 < hyon h x) : jHs (jexc h x i) (jxs (jxs σ 12 x i (nI (hyod h x (i + 1)))) 12 x (i + 1) (nI (hyod h x i))) := by
  refine ⟨?_, ?_, fun t' ht' => ?_, fun v hv => ⟨?_, ?_⟩, fun r hr => ⟨?_, ?_, ?_, ?_⟩, fun t' x' ht' hx' => ?_, fun x' hx' => ?_, fun x' j hx' hj => ?_⟩
  · show _ = nI (hyV h)
    simp [jxs_at]; exact jHs_V hs
  · show _ = nI (hyR h)
    simp [jxs_at]; exact jHs_R hs
  · simp [jxs_at]; exact jHs_S hs ht'
  · simp [jxs_at]; exact jHs_W hs hv
  · simp [jxs_at]; exact jHs_I hs hv
  · simp [jxs_at]; exact jHs_rd hs hr
  · simp [jxs_at]; exact jHs_ri hs hr
  · simp [jxs_at]; exact jHs_rv hs hr
  · simp [jxs_at]; exact jHs_ro hs hr
  · simp [jxs_at]; exact jHs_lt hs ht' hx'
  · simp [jxs_at]; exact jHs_on hs hx'
  · have hj' : j < hyon h x' := hj
    show _ = nI (if x' = x ∧ j = i then hyod h x (i + 1) else if x' = x ∧ j = i + 1 then hyod h x i else hyod h x' j)
    by_cases q : x' = x
    · subst q
      by_cases z : j = i
      · subst z; simp [jxs_at]
      · by_cases z2 : j = i + 1
        · subst z2; simp [jxs_at]
        · simp [jxs_at, z, z2]; exact jHs_od hs hx' hj'
    · simp [jxs_at, q]; exact jHs_od hs hx' hj'
end JMV
end
section
/-! The history: what changes it. -/
/-- the first t rows of the latest are emptied -/
def jft (σ : jxM) (t : Nat) : jxM := fun g r j => if g = 10 ∧ r < t ∧ j < 6 then -1 else σ g r j
theorem jft_0 (σ : jxM) : jft σ 0 = σ := by funext a b c; simp [jft]
theorem jft_succ (σ : jxM) (t : Nat) : jfl (jft σ t) 10 t 6 (-1) = jft σ (t + 1) := by
  funext a b c
  unfold jfl jft
  by_cases h1 : a = 10
  · by_cases h2 : b = t
    · subst h1; subst h2
      by_cases h3 : c < 6 <;> simp [h3]
    · have : (b < t + 1) = (b < t) := by simp; omega
      simp [h1, h2, this]
  · simp [h1]
set_option maxRecDepth 100000 in
set_option maxHeartbeats 4000000 in
theorem c_H_reset {l : Launch} {Θ : jxT} (hI : jxI Θ) (hC : ∀ g r, r < jrwH g → Θ.2.2.2 g r) (σ : jxM) : jxMet l y_H_reset b_H_reset 2 none (jrm 2) Θ [.inr (1, 0)] σ (fun r σ' => r = none ∧ jHs jh0 σ' ∧ ∀ g, 14 ≤ g → σ' g = σ g) := by
  refine jxMet.of (own := "HistoryJudge$History") hI (by decide) rfl (Nat.le_of_ble_eq_true rfl) (fun Γ X => ?_)
  show jxW Γ Θ (fun r σ' => r = none ∧ jHs jh0 σ' ∧ ∀ g, 14 ≤ g → σ' g = σ g) 0 [some (.inr (1, 0)), none] [] σ
  have K : ∀ (N : Nat) (t : Nat), 9 - t < N → t ≤ 8 → jxW Γ Θ (fun r σ' => r = none ∧ jHs jh0 σ' ∧ ∀ g, 14 ≤ g → σ' g = σ g) 28 [some (.inr (1, 0)), some (.inl (nI t))] [] (jft (jfl (jfl (jxs (jxs σ 1 0 3 (nI 0)) 1 0 8 (nI 0)) 2 0 8 (nI 0)) 13 0 6 (nI 0)) t) := by
    intro N
    induction N with
    | zero => intro t hn; exact absurd hn (Nat.not_lt_zero _)
    | succ N ih =>
      intro t hn ht
      refine j_iload_n X (q := 29) d_H_reset_28 rfl rfl ?_
      refine j_bipush X (v := (nI 8)) (q := 31) d_H_reset_29 (by decide +kernel) rfl ?_
      refine j_ncmp_ge X (tgt := 50) (q := 34) d_H_reset_31 (by decide) rfl (by omega) (by omega) (fun h31 => ?_) (fun h31 => ?_)
      · have _b31 := True.intro
        refine j_vret X d_H_reset_50 ?_
        have e : t = 8 := by omega
        subst e
        refine ⟨rfl, jHs_0 (σ := σ) rfl, fun g hg => ?_⟩
        funext r j
        have h1 : ¬ g = 10 := by omega
        have h2 : ¬ g = 13 := by omega
        have h3 : ¬ g = 2 := by omega
        have h4 : ¬ g = 1 := by omega
        simp [jft, jfl, jxs_at, h1, h2, h3, h4]
      · have _b31 := True.intro
        refine j_aload_n X (q := 35) d_H_reset_34 rfl rfl ?_
        refine j_getR X (C := jR2) (T := jT2) (N := 12) (ci := 2) (j := 9) (q := 38) d_H_reset_35 ju2 rfl rfl rfl (by decide) wl96 rfl (hC _ _ (by decide)) rfl ?_
        refine j_iload_n X (q := 39) d_H_reset_38 rfl rfl ?_
        refine j_aald X (q := 40) d_H_reset_39 rfl (by decide) rfl (by omega) (hC _ _ (by decide)) rfl ?_
        refine j_iconst X (v := (-1)) (q := 41) d_H_reset_40 (by decide +kernel) rfl ?_
        refine j_callS X (n := 2) d_H_reset_41 (c_A_fill hI (g := 10) (r := t) (n := 6) rfl (by decide) (hC _ _ (by show _ < 8; omega)) (-1) _) wl70 wl71 wl38 wl72 (by decide +kernel) ⟨rfl, rfl⟩ (by decide) rfl rfl (Nat.le_of_ble_eq_true rfl) rfl (q := 44) rfl (fun r41 τ41 e41 => ?_)
        obtain ⟨rfl, rfl⟩ := e41
        refine j_iinc X (q := 47) d_H_reset_44 rfl (j_inc1 _) rfl ?_
        refine j_goto X (tgt := 28) d_H_reset_47 (by decide) ?_
        refine jxW.cast rfl rfl (jft_succ _ t) ?_
        exact ih (t + 1) (by omega) (by omega)
  refine j_aload_n X (q := 1) d_H_reset_0 rfl rfl ?_
  refine j_iconst X (v := (nI 0)) (q := 2) d_H_reset_1 (by decide +kernel) rfl ?_
  refine j_putI X (C := jR2) (T := jT2) (N := 12) (ci := 2) (j := 3) (q := 5) d_H_reset_2 ju2 rfl rfl jt2 jt2_ok jn2 rfl (by decide) wl79 rfl (hC _ _ (by decide)) rfl rfl (ty := .int) rfl rfl rfl ?_
  refine j_aload_n X (q := 6) d_H_reset_5 rfl rfl ?_
  refine j_iconst X (v := (nI 0)) (q := 7) d_H_reset_6 (by decide +kernel) rfl ?_
  refine j_putI X (C := jR2) (T := jT2) (N := 12) (ci := 2) (j := 8) (q := 10) d_H_reset_7 ju2 rfl rfl jt2 jt2_ok jn2 rfl (by decide) wl92 rfl (hC _ _ (by decide)) rfl rfl (ty := .int) rfl rfl rfl ?_
  refine j_aload_n X (q := 11) d_H_reset_10 rfl rfl ?_
  refine j_getR X (C := jR2) (T := jT2) (N := 12) (ci := 2) (j := 0) (q := 14) d_H_reset_11 ju2 rfl rfl rfl (by decide) wl73 rfl (hC _ _ (by decide)) rfl ?_
  refine j_iconst X (v := (nI 0)) (q := 15) d_H_reset_14 (by decide +kernel) rfl ?_
  refine j_callS X (n := 2) d_H_reset_15 (c_A_fill hI (g := 2) (r := 0) (n := 8) rfl (by decide) (hC _ _ (by decide)) (nI 0) _) wl70 wl71 wl38 wl72 (by decide +kernel) ⟨rfl, rfl⟩ (by decide) rfl rfl (Nat.le_of_ble_eq_true rfl) rfl (q := 18) rfl (fun r15 τ15 e15 => ?_)
  obtain ⟨rfl, rfl⟩ := e15
  refine j_aload_n X (q := 19) d_H_reset_18 rfl rfl ?_
  refine j_getR X (C := jR2) (T := jT2) (N := 12) (ci := 2) (j := 11) (q := 22) d_H_reset_19 ju2 rfl rfl rfl (by decide) wl100 rfl (hC _ _ (by decide)) rfl ?_
  refine j_iconst X (v := (nI 0)) (q := 23) d_H_reset_22 (by decide +kernel) rfl ?_
  refine j_callS X (n := 2) d_H_reset_23 (c_A_fill hI (g := 13) (r := 0) (n := 6) rfl (by decide) (hC _ _ (by decide)) (nI 0) _) wl70 wl71 wl38 wl72 (by decide +kernel) ⟨rfl, rfl⟩ (by decide) rfl rfl (Nat.le_of_ble_eq_true rfl) rfl (q := 26) rfl (fun r23 τ23 e23 => ?_)
  obtain ⟨rfl, rfl⟩ := e23
  refine j_iconst X (v := (nI 0)) (q := 27) d_H_reset_26 (by decide +kernel) rfl ?_
  refine j_istore_n X (j := 1) (q := 28) d_H_reset_27 rfl (Nat.le_of_ble_eq_true rfl) rfl ?_
  refine jxW.cast rfl rfl (jft_0 _).symm ?_
  exact K 10 0 (by omega) (by omega)
set_option maxRecDepth 100000 in
set_option maxHeartbeats 4000000 in
theorem c_H_addVersion {l : Launch} {Θ : jxT} (hI : jxI Θ) (hC : ∀ g r, r < jrwH g → Θ.2.2.2 g r) {h : jH} {σ : jxM} (hw : jHw h) (hs : jHs h σ) {t x : Nat} (ht : t < 8) (hx : x < 6) (hv : hyV h < 40) : jxMet l y_H_addVersion b_H_addVersion 4 (some FieldType.int) (jrm 1) Θ [.inr (1, 0), .inl (nI t), .inl (nI x)] σ (fun r σ' => r = some (.inl (nI (hyV h))) ∧ jHs (jaddV h t x) σ' ∧ ∀ g, 14 ≤ g → σ' g = σ g) := by
  refine jxMet.of (own := "HistoryJudge$History") hI (by decide) rfl (Nat.le_of_ble_eq_true rfl) (fun Γ X => ?_)
  show jxW Γ Θ (fun r σ' => r = some (.inl (nI (hyV h))) ∧ jHs (jaddV h t x) σ' ∧ ∀ g, 14 ≤ g → σ' g = σ g) 0 [some (.inr (1, 0)), some (.inl (nI t)), some (.inl (nI x)), none] [] σ
  refine j_aload_n X (q := 1) d_H_addVersion_0 rfl rfl ?_
  refine j_getI X (C := jR2) (T := jT2) (N := 12) (ci := 2) (j := 3) (q := 4) d_H_addVersion_1 ju2 rfl rfl rfl (by decide) wl79 rfl (hC _ _ (by decide)) rfl (jHs_V hs) ?_
  refine j_istore_n X (j := 3) (q := 5) d_H_addVersion_4 rfl (Nat.le_of_ble_eq_true rfl) rfl ?_
  refine j_aload_n X (q := 6) d_H_addVersion_5 rfl rfl ?_
  refine j_getR X (C := jR2) (T := jT2) (N := 12) (ci := 2) (j := 1) (q := 9) d_H_addVersion_6 ju2 rfl rfl rfl (by decide) wl75 rfl (hC _ _ (by decide)) rfl ?_
  refine j_iload_n X (q := 10) d_H_addVersion_9 rfl rfl ?_
  refine j_iload_n X (q := 11) d_H_addVersion_10 rfl rfl ?_
  refine j_iast X (q := 12) d_H_addVersion_11 rfl (by decide) rfl (by omega) (hC _ _ (by decide)) rfl ?_
  refine j_aload_n X (q := 13) d_H_addVersion_12 rfl rfl ?_
  refine j_getR X (C := jR2) (T := jT2) (N := 12) (ci := 2) (j := 2) (q := 16) d_H_addVersion_13 ju2 rfl rfl rfl (by decide) wl78 rfl (hC _ _ (by decide)) rfl ?_
  refine j_iload_n X (q := 17) d_H_addVersion_16 rfl rfl ?_
  refine j_iload_n X (q := 18) d_H_addVersion_17 rfl rfl ?_
  refine j_iast X (q := 19) d_H_addVersion_18 rfl (by decide) rfl (by omega) (hC _ _ (by decide)) rfl ?_
  refine j_aload_n X (q := 20) d_H_addVersion_19 rfl rfl ?_
  refine j_getR X (C := jR2) (T := jT2) (N := 12) (ci := 2) (j := 9) (q := 23) d_H_addVersion_20 ju2 rfl rfl rfl (by decide) wl96 rfl (hC _ _ (by decide)) rfl ?_
  refine j_iload_n X (q := 24) d_H_addVersion_23 rfl rfl ?_
  refine j_aald X (q := 25) d_H_addVersion_24 rfl (by decide) rfl (by omega) (hC _ _ (by decide)) rfl ?_
  refine j_iload_n X (q := 26) d_H_addVersion_25 rfl rfl ?_
  refine j_iload_n X (q := 27) d_H_addVersion_26 rfl rfl ?_
  refine j_iast X (q := 28) d_H_addVersion_27 rfl (by decide) rfl (by omega) (hC _ _ (by show _ < 8; omega)) rfl ?_
  refine j_aload_n X (q := 29) d_H_addVersion_28 rfl rfl ?_
  refine j_getR X (C := jR2) (T := jT2) (N := 12) (ci := 2) (j := 0) (q := 32) d_H_addVersion_29 ju2 rfl rfl rfl (by decide) wl73 rfl (hC _ _ (by decide)) rfl ?_
  refine j_iload_n X (q := 33) d_H_addVersion_32 rfl rfl ?_
  refine j_iconst X (v := (nI 1)) (q := 34) d_H_addVersion_33 (by decide +kernel) rfl ?_
  refine j_iast X (q := 35) d_H_addVersion_34 rfl (by decide) rfl (by omega) (hC _ _ (by decide)) rfl ?_
  refine j_aload_n X (q := 36) d_H_addVersion_35 rfl rfl ?_
  refine j_dup X (q := 37) d_H_addVersion_36 rfl ?_
  refine j_getI X (C := jR2) (T := jT2) (N := 12) (ci := 2) (j := 3) (q := 40) d_H_addVersion_37 ju2 rfl rfl rfl (by decide) wl79 rfl (hC _ _ (by decide)) rfl (show _ = nI (hyV h) by (simp [jxs_at]; exact jHs_V hs)) ?_
  refine j_iconst X (v := (nI 1)) (q := 41) d_H_addVersion_40 (by decide +kernel) rfl ?_
  refine j_iadd X (q := 42) d_H_addVersion_41 rfl ?_
  refine j_putI X (C := jR2) (T := jT2) (N := 12) (ci := 2) (j := 3) (q := 45) d_H_addVersion_42 ju2 rfl rfl jt2 jt2_ok jn2 rfl (by decide) wl79 rfl (hC _ _ (by decide)) rfl rfl (ty := .int) rfl rfl rfl ?_
  refine j_iload_n X (q := 46) d_H_addVersion_45 rfl rfl ?_
  refine j_iret X d_H_addVersion_46 ?_
  exact ⟨rfl, by rw [nI_add]; exact jHs_addV hs, fun g hg => by simp only [jxs_g _ _ _ _ _ (show g ≠ 1 by omega), jxs_g _ _ _ _ _ (show g ≠ 2 by omega), jxs_g _ _ _ _ _ (show g ≠ 3 by omega), jxs_g _ _ _ _ _ (show g ≠ 4 by omega), jxs_g _ _ _ _ _ (show g ≠ 5 by omega), jxs_g _ _ _ _ _ (show g ≠ 6 by omega), jxs_g _ _ _ _ _ (show g ≠ 7 by omega), jxs_g _ _ _ _ _ (show g ≠ 8 by omega), jxs_g _ _ _ _ _ (show g ≠ 10 by omega)]⟩
set_option maxRecDepth 100000 in
set_option maxHeartbeats 4000000 in
theorem c_H_addRead {l : Launch} {Θ : jxT} (hI : jxI Θ) (hC : ∀ g r, r < jrwH g → Θ.2.2.2 g r) {h : jH} {σ : jxM} (hw : jHw h) (hs : jHs h σ) {t x : Nat} {o : Option Nat} (ht : t < 8) (hx : x < 6) (hr : hyR h < 60) : jxMet l y_H_addRead b_H_addRead 4 (some FieldType.int) (jrm 1) Θ [.inr (1, 0), .inl (nI t), .inl (nI x), .inl (vI o)] σ (fun r σ' => r = some (.inl (nI (hyR h + 1))) ∧ jHs (jaddR h t x o) σ' ∧ ∀ g, 14 ≤ g → σ' g = σ g) := by
  refine jxMet.of (own := "HistoryJudge$History") hI (by decide) rfl (Nat.le_of_ble_eq_true rfl) (fun Γ X => ?_)
  show jxW Γ Θ (fun r σ' => r = some (.inl (nI (hyR h + 1))) ∧ jHs (jaddR h t x o) σ' ∧ ∀ g, 14 ≤ g → σ' g = σ g) 0 [some (.inr (1, 0)), some (.inl (nI t)), some (.inl (nI x)), some (.inl (vI o))] [] σ
  refine j_aload_n X (q := 1) d_H_addRead_0 rfl rfl ?_
  refine j_getR X (C := jR2) (T := jT2) (N := 12) (ci := 2) (j := 4) (q := 4) d_H_addRead_1 ju2 rfl rfl rfl (by decide) wl81 rfl (hC _ _ (by decide)) rfl ?_
  refine j_aload_n X (q := 5) d_H_addRead_4 rfl rfl ?_
  refine j_getI X (C := jR2) (T := jT2) (N := 12) (ci := 2) (j := 8) (q := 8) d_H_addRead_5 ju2 rfl rfl rfl (by decide) wl92 rfl (hC _ _ (by decide)) rfl (jHs_R hs) ?_
  refine j_iload_n X (q := 9) d_H_addRead_8 rfl rfl ?_
  refine j_iast X (q := 10) d_H_addRead_9 rfl (by decide) rfl (by omega) (hC _ _ (by decide)) rfl ?_
  refine j_aload_n X (q := 11) d_H_addRead_10 rfl rfl ?_
  refine j_getR X (C := jR2) (T := jT2) (N := 12) (ci := 2) (j := 5) (q := 14) d_H_addRead_11 ju2 rfl rfl rfl (by decide) wl84 rfl (hC _ _ (by decide)) rfl ?_
  refine j_aload_n X (q := 15) d_H_addRead_14 rfl rfl ?_
  refine j_getI X (C := jR2) (T := jT2) (N := 12) (ci := 2) (j := 8) (q := 18) d_H_addRead_15 ju2 rfl rfl rfl (by decide) wl92 rfl (hC _ _ (by decide)) rfl (show _ = nI (hyR h) by (simp [jxs_at]; exact jHs_R hs)) ?_
  refine j_iload_n X (q := 19) d_H_addRead_18 rfl rfl ?_
  refine j_iast X (q := 20) d_H_addRead_19 rfl (by decide) rfl (by omega) (hC _ _ (by decide)) rfl ?_
  refine j_aload_n X (q := 21) d_H_addRead_20 rfl rfl ?_
  refine j_getR X (C := jR2) (T := jT2) (N := 12) (ci := 2) (j := 6) (q := 24) d_H_addRead_21 ju2 rfl rfl rfl (by decide) wl87 rfl (hC _ _ (by decide)) rfl ?_
  refine j_aload_n X (q := 25) d_H_addRead_24 rfl rfl ?_
  refine j_getI X (C := jR2) (T := jT2) (N := 12) (ci := 2) (j := 8) (q := 28) d_H_addRead_25 ju2 rfl rfl rfl (by decide) wl92 rfl (hC _ _ (by decide)) rfl (show _ = nI (hyR h) by (simp [jxs_at]; exact jHs_R hs)) ?_
  refine j_iload_n X (q := 29) d_H_addRead_28 rfl rfl ?_
  refine j_iast X (q := 30) d_H_addRead_29 rfl (by decide) rfl (by omega) (hC _ _ (by decide)) rfl ?_
  refine j_aload_n X (q := 31) d_H_addRead_30 rfl rfl ?_
  refine j_getR X (C := jR2) (T := jT2) (N := 12) (ci := 2) (j := 7) (q := 34) d_H_addRead_31 ju2 rfl rfl rfl (by decide) wl90 rfl (hC _ _ (by decide)) rfl ?_
  refine j_aload_n X (q := 35) d_H_addRead_34 rfl rfl ?_
  refine j_getI X (C := jR2) (T := jT2) (N := 12) (ci := 2) (j := 8) (q := 38) d_H_addRead_35 ju2 rfl rfl rfl (by decide) wl92 rfl (hC _ _ (by decide)) rfl (show _ = nI (hyR h) by (simp [jxs_at]; exact jHs_R hs)) ?_
  refine j_aload_n X (q := 39) d_H_addRead_38 rfl rfl ?_
  refine j_getR X (C := jR2) (T := jT2) (N := 12) (ci := 2) (j := 9) (q := 42) d_H_addRead_39 ju2 rfl rfl rfl (by decide) wl96 rfl (hC _ _ (by decide)) rfl ?_
  refine j_iload_n X (q := 43) d_H_addRead_42 rfl rfl ?_
  refine j_aald X (q := 44) d_H_addRead_43 rfl (by decide) rfl (by omega) (hC _ _ (by decide)) rfl ?_
  refine j_iload_n X (q := 45) d_H_addRead_44 rfl rfl ?_
  refine j_iald X (q := 46) d_H_addRead_45 rfl (by decide) rfl (by omega) (hC _ _ (by show _ < 8; omega)) rfl (show _ = vI (hylt h t x) by (simp [jxs_at]; exact jHs_lt hs ht hx)) ?_
  refine j_iast X (q := 47) d_H_addRead_46 rfl (by decide) rfl (by omega) (hC _ _ (by decide)) rfl ?_
  refine j_aload_n X (q := 48) d_H_addRead_47 rfl rfl ?_
  refine j_getR X (C := jR2) (T := jT2) (N := 12) (ci := 2) (j := 0) (q := 51) d_H_addRead_48 ju2 rfl rfl rfl (by decide) wl73 rfl (hC _ _ (by decide)) rfl ?_
  refine j_iload_n X (q := 52) d_H_addRead_51 rfl rfl ?_
  refine j_iconst X (v := (nI 1)) (q := 53) d_H_addRead_52 (by decide +kernel) rfl ?_
  refine j_iast X (q := 54) d_H_addRead_53 rfl (by decide) rfl (by omega) (hC _ _ (by decide)) rfl ?_
  refine j_aload_n X (q := 55) d_H_addRead_54 rfl rfl ?_
  refine j_dup X (q := 56) d_H_addRead_55 rfl ?_
  refine j_getI X (C := jR2) (T := jT2) (N := 12) (ci := 2) (j := 8) (q := 59) d_H_addRead_56 ju2 rfl rfl rfl (by decide) wl92 rfl (hC _ _ (by decide)) rfl (show _ = nI (hyR h) by (simp [jxs_at]; exact jHs_R hs)) ?_
  refine j_iconst X (v := (nI 1)) (q := 60) d_H_addRead_59 (by decide +kernel) rfl ?_
  refine j_iadd X (q := 61) d_H_addRead_60 rfl ?_
  refine j_putI X (C := jR2) (T := jT2) (N := 12) (ci := 2) (j := 8) (q := 64) d_H_addRead_61 ju2 rfl rfl jt2 jt2_ok jn2 rfl (by decide) wl92 rfl (hC _ _ (by decide)) rfl rfl (ty := .int) rfl rfl rfl ?_
  refine j_aload_n X (q := 65) d_H_addRead_64 rfl rfl ?_
  refine j_getI X (C := jR2) (T := jT2) (N := 12) (ci := 2) (j := 8) (q := 68) d_H_addRead_65 ju2 rfl rfl rfl (by decide) wl92 rfl (hC _ _ (by decide)) rfl (show _ = nI (hyR h + 1) by (simp [jxs_at, nI_add])) ?_
  refine j_iret X d_H_addRead_68 ?_
  exact ⟨rfl, by rw [nI_add]; exact jHs_addR hs, fun g hg => by simp only [jxs_g _ _ _ _ _ (show g ≠ 1 by omega), jxs_g _ _ _ _ _ (show g ≠ 2 by omega), jxs_g _ _ _ _ _ (show g ≠ 3 by omega), jxs_g _ _ _ _ _ (show g ≠ 4 by omega), jxs_g _ _ _ _ _ (show g ≠ 5 by omega), jxs_g _ _ _ _ _ (show g ≠ 6 by omega), jxs_g _ _ _ _ _ (show g ≠ 7 by omega), jxs_g _ _ _ _ _ (show g ≠ 8 by omega), jxs_g _ _ _ _ _ (show g ≠ 10 by omega)]⟩
set_option maxRecDepth 100000 in
set_option maxHeartbeats 4000000 in
theorem c_H_commit {l : Launch} {Θ : jxT} (hI : jxI Θ) (hC : ∀ g r, r < jrwH g → Θ.2.2.2 g r) {h : jH} {σ : jxM} (hw : jHw h) (hs : jHs h σ) {t : Nat} (ht : t < 8) (hon : ∀ x, x < 6 → (hylt h t x).isSome = true → hyon h x < 8) : jxMet l y_H_commit b_H_commit 3 none (jrm 1) Θ [.inr (1, 0), .inl (nI t)] σ (fun r σ' => r = none ∧ jHs (jcomP h t 6) σ' ∧ ∀ g, 14 ≤ g → σ' g = σ g) := by
  refine jxMet.of (own := "HistoryJudge$History") hI (by decide) rfl (Nat.le_of_ble_eq_true rfl) (fun Γ X => ?_)
  show jxW Γ Θ (fun r σ' => r = none ∧ jHs (jcomP h t 6) σ' ∧ ∀ g, 14 ≤ g → σ' g = σ g) 0 [some (.inr (1, 0)), some (.inl (nI t)), none] [] σ
  have bV := jHw_V hw
  have K : ∀ (N : Nat) (k : Nat) (σ1 : jxM), 6 - k < N → k ≤ 6 → jHs (jcomP h t k) σ1 → (∀ g, 14 ≤ g → σ1 g = σ g) → jxW Γ Θ (fun r σ' => r = none ∧ jHs (jcomP h t 6) σ' ∧ ∀ g, 14 ≤ g → σ' g = σ g) 9 [some (.inr (1, 0)), some (.inl (nI t)), some (.inl (nI k))] [] σ1 := by
    intro N
    induction N with
    | zero => intro k σ1 hn; exact absurd hn (Nat.not_lt_zero _)
    | succ N ih =>
      intro k σ1 hn hk hs1 hf1
      refine j_iload_n X (q := 10) d_H_commit_9 rfl rfl ?_
      refine j_bipush X (v := (nI 6)) (q := 12) d_H_commit_10 (by decide +kernel) rfl ?_
      refine j_ncmp_ge X (tgt := 75) (q := 15) d_H_commit_12 (by decide) rfl (by omega) (by omega) (fun h12 => ?_) (fun h12 => ?_)
      · have _b12 := True.intro
        refine j_vret X d_H_commit_75 ?_
        have e : k = 6 := by omega
        subst e
        exact ⟨rfl, hs1, hf1⟩
      · have _b12 := True.intro
        have onk : hyon (jcomP h t k) k = hyon h k := by
          show (if k < k ∧ _ then _ else _) = _
          simp
        have bm := vI_m1 (hylt h t k) (fun v hv => by have := (jHw_lt hw ht (show k < 6 by omega) hv).1; omega)
        refine j_aload_n X (q := 16) d_H_commit_15 rfl rfl ?_
        refine j_getR X (C := jR2) (T := jT2) (N := 12) (ci := 2) (j := 9) (q := 19) d_H_commit_16 ju2 rfl rfl rfl (by decide) wl96 rfl (hC _ _ (by decide)) rfl ?_
        refine j_iload_n X (q := 20) d_H_commit_19 rfl rfl ?_
        refine j_aald X (q := 21) d_H_commit_20 rfl (by decide) rfl (by omega) (hC _ _ (by decide)) rfl ?_
        refine j_iload_n X (q := 22) d_H_commit_21 rfl rfl ?_
        refine j_iald X (q := 23) d_H_commit_22 rfl (by decide) rfl (by omega) (hC _ _ (by show _ < 8; omega)) rfl (jHs_lt hs1 ht (by omega)) ?_
        refine j_iconst X (v := (-1)) (q := 24) d_H_commit_23 (by decide +kernel) rfl ?_
        refine j_icmp_eq X (tgt := 69) (q := 27) d_H_commit_24 (by decide) rfl (fun h24 => ?_) (fun h24 => ?_)
        · have _b24 := True.intro
          have en : hylt h t k = none := bm.mp h24
          refine j_iinc X (q := 72) d_H_commit_69 rfl (j_inc1 _) rfl ?_
          refine j_goto X (tgt := 9) d_H_commit_72 (by decide) ?_
          exact ih (k + 1) σ1 (by omega) (by omega) (by rw [jcomP_no en]; exact hs1) hf1
        · have _b24 := True.intro
          obtain ⟨v, ev⟩ : ∃ v, hylt h t k = some v := by
            cases e : hylt h t k with
            | some v => exact ⟨v, rfl⟩
            | none => exact absurd (bm.mpr e) h24
          have b8 := hon k (by omega) (by rw [ev]; rfl)
          refine j_aload_n X (q := 28) d_H_commit_27 rfl rfl ?_
          refine j_getR X (C := jR2) (T := jT2) (N := 12) (ci := 2) (j := 11) (q := 31) d_H_commit_28 ju2 rfl rfl rfl (by decide) wl100 rfl (hC _ _ (by decide)) rfl ?_
          refine j_iload_n X (q := 32) d_H_commit_31 rfl rfl ?_
          refine j_iald X (q := 33) d_H_commit_32 rfl (by decide) rfl (by omega) (hC _ _ (by decide)) rfl (show _ = nI (hyon h k) by (rw [← onk]; exact jHs_on hs1 (by omega))) ?_
          refine j_bipush X (v := (nI 8)) (q := 35) d_H_commit_33 (by decide +kernel) rfl ?_
          refine j_ncmp_ge X (tgt := 69) (q := 38) d_H_commit_35 (by decide) rfl (by omega) (by omega) (fun h35 => ?_) (fun h35 => ?_)
          · have _b35 := True.intro
            omega
          · have _b35 := True.intro
            refine j_aload_n X (q := 39) d_H_commit_38 rfl rfl ?_
            refine j_getR X (C := jR2) (T := jT2) (N := 12) (ci := 2) (j := 10) (q := 42) d_H_commit_39 ju2 rfl rfl rfl (by decide) wl97 rfl (hC _ _ (by decide)) rfl ?_
            refine j_iload_n X (q := 43) d_H_commit_42 rfl rfl ?_
            refine j_aald X (q := 44) d_H_commit_43 rfl (by decide) rfl (by omega) (hC _ _ (by decide)) rfl ?_
            refine j_aload_n X (q := 45) d_H_commit_44 rfl rfl ?_
            refine j_getR X (C := jR2) (T := jT2) (N := 12) (ci := 2) (j := 11) (q := 48) d_H_commit_45 ju2 rfl rfl rfl (by decide) wl100 rfl (hC _ _ (by decide)) rfl ?_
            refine j_iload_n X (q := 49) d_H_commit_48 rfl rfl ?_
            refine j_iald X (q := 50) d_H_commit_49 rfl (by decide) rfl (by omega) (hC _ _ (by decide)) rfl (show _ = nI (hyon h k) by (rw [← onk]; exact jHs_on hs1 (by omega))) ?_
            refine j_aload_n X (q := 51) d_H_commit_50 rfl rfl ?_
            refine j_getR X (C := jR2) (T := jT2) (N := 12) (ci := 2) (j := 9) (q := 54) d_H_commit_51 ju2 rfl rfl rfl (by decide) wl96 rfl (hC _ _ (by decide)) rfl ?_
            refine j_iload_n X (q := 55) d_H_commit_54 rfl rfl ?_
            refine j_aald X (q := 56) d_H_commit_55 rfl (by decide) rfl (by omega) (hC _ _ (by decide)) rfl ?_
            refine j_iload_n X (q := 57) d_H_commit_56 rfl rfl ?_
            refine j_iald X (q := 58) d_H_commit_57 rfl (by decide) rfl (by omega) (hC _ _ (by show _ < 8; omega)) rfl (show _ = nI v by (rw [jHs_lt hs1 ht (by omega)]; show vI (hylt h t k) = nI v; rw [ev]; rfl)) ?_
            refine j_iast X (q := 59) d_H_commit_58 rfl (by decide) rfl (by omega) (hC _ _ (by show _ < 6; omega)) rfl ?_
            refine j_aload_n X (q := 60) d_H_commit_59 rfl rfl ?_
            refine j_getR X (C := jR2) (T := jT2) (N := 12) (ci := 2) (j := 11) (q := 63) d_H_commit_60 ju2 rfl rfl rfl (by decide) wl100 rfl (hC _ _ (by decide)) rfl ?_
            refine j_iload_n X (q := 64) d_H_commit_63 rfl rfl ?_
            refine j_dup2 X (q := 65) d_H_commit_64 rfl ?_
            refine j_iald X (q := 66) d_H_commit_65 rfl (by decide) rfl (by omega) (hC _ _ (by decide)) rfl (show _ = nI (hyon h k) by (simp [jxs_at]; rw [← onk]; exact jHs_on hs1 (by omega))) ?_
            refine j_iconst X (v := (nI 1)) (q := 67) d_H_commit_66 (by decide +kernel) rfl ?_
            refine j_iadd X (q := 68) d_H_commit_67 rfl ?_
            refine j_iast X (q := 69) d_H_commit_68 rfl (by decide) rfl (by omega) (hC _ _ (by decide)) rfl ?_
            refine j_iinc X (q := 72) d_H_commit_69 rfl (j_inc1 _) rfl ?_
            refine j_goto X (tgt := 9) d_H_commit_72 (by decide) ?_
            refine ih (k + 1) _ (by omega) (by omega) (by rw [nI_add]; exact jHs_com hs1 ev) (fun g hg => ?_)
            rw [jxs_g _ _ _ _ _ (by omega), jxs_g _ _ _ _ _ (by omega)]
            exact hf1 g hg
  refine j_aload_n X (q := 1) d_H_commit_0 rfl rfl ?_
  refine j_getR X (C := jR2) (T := jT2) (N := 12) (ci := 2) (j := 0) (q := 4) d_H_commit_1 ju2 rfl rfl rfl (by decide) wl73 rfl (hC _ _ (by decide)) rfl ?_
  refine j_iload_n X (q := 5) d_H_commit_4 rfl rfl ?_
  refine j_iconst X (v := (nI 2)) (q := 6) d_H_commit_5 (by decide +kernel) rfl ?_
  refine j_iast X (q := 7) d_H_commit_6 rfl (by decide) rfl (by omega) (hC _ _ (by decide)) rfl ?_
  refine j_iconst X (v := (nI 0)) (q := 8) d_H_commit_7 (by decide +kernel) rfl ?_
  refine j_istore_n X (j := 2) (q := 9) d_H_commit_8 rfl (Nat.le_of_ble_eq_true rfl) rfl ?_
  exact K 7 0 _ (by omega) (by omega) (by rw [jcomP_0]; exact jHs_end hs) (fun g hg => jxs_g _ _ _ _ _ (by omega))
end
section
/-! The graph: the edges among committed transactions. -/
/-- the locals L' are known where L are -/
def jfg : List (Option jxV) → List (Option jxV) → Prop
  | [], [] => True
  | _ :: l, none :: l' => jfg l l'
  | a :: l, some b :: l' => a = some b ∧ jfg l l'
  | _, _ => False
theorem jfg_len : ∀ (L L' : List (Option jxV)), jfg L L' → L.length = L'.length
  | [], [], _ => rfl
  | _ :: l, none :: l', h => by
    have h : jfg l l' := h
    simp [jfg_len l l' h]
  | a :: l, some b :: l', h => by
    have h : a = some b ∧ jfg l l' := h
    simp [jfg_len l l' h.2]
  | [], _ :: _, h => by cases h
  | _ :: _, [], h => by cases h
theorem jfg_at : ∀ (L L' : List (Option jxV)), jfg L L' → ∀ (i : Nat) (v : jxV), L'[i]? = some (some v) → L[i]? = some (some v)
  | [], [], _, i, v, hi => by simp at hi
  | a :: l, none :: l', h, i, v, hi => by
    have h : jfg l l' := h
    cases i with
    | zero => simp at hi
    | succ i => simpa using jfg_at l l' h i v (by simpa using hi)
  | a :: l, some b :: l', h, i, v, hi => by
    have h : a = some b ∧ jfg l l' := h
    cases i with
    | zero => simpa [h.1] using hi
    | succ i => simpa using jfg_at l l' h.2 i v (by simpa using hi)
  | [], _ :: _, h, _, _, _ => by cases h
  | _ :: _, [], h, _, _, _ => by cases h
theorem jxW.to {Γ : jxG} {Θ : jxT} {Φ : jxF} {pc : Nat} {L L' : List (Option jxV)} {st : List jxV} {σ : jxM} (h : jfg L L') (k : jxW Γ Θ Φ pc L' st σ) : jxW Γ Θ Φ pc L st σ := by
  obtain ⟨p, l', e, R, s, m, args, below, meth, c, A⟩ := Γ
  intro H locs ls hP hS hl
  exact k H locs ls hP hS ⟨hl.1.trans (jfg_len L L' h), hl.2.1, fun i v hi => hl.2.2 i v (jfg_at L L' h i v hi)⟩
/-- the row of sets in group g: who leads where -/
def jGb (g : Nat) (E : Nat → Nat → Bool) (σ : jxM) : Prop := ∀ a, a < 8 → σ g 0 a = bI (E a)
def jGs (g : Nat) (E : Nat → Nat → Prop) (σ : jxM) : Prop := jGb g (fun a b => jd (E a b)) σ
theorem jGs_ext {g : Nat} {E F : Nat → Nat → Prop} {σ : jxM} (h : jGs g E σ) (e : ∀ a b, a < 8 → b < 8 → (E a b ↔ F a b)) : jGs g F σ := fun a ha => by
  rw [h a ha]
  exact bI_ext (fun b hb => jd_ext (e a b ha hb))
theorem jGs_keep {g : Nat} {E : Nat → Nat → Prop} {σ σ' : jxM} (h : jGs g E σ) (e : σ' g = σ g) : jGs g E σ' := fun a ha => by rw [e]; exact h a ha
theorem jGb_keep {g : Nat} {E : Nat → Nat → Bool} {σ σ' : jxM} (h : jGb g E σ) (e : σ' g = σ g) : jGb g E σ' := fun a ha => by rw [e]; exact h a ha
theorem jGs_add {g a b : Nat} {E : Nat → Nat → Prop} {σ : jxM} (h : jGs g E σ) (ha : a < 8) (hne : a ≠ b) : jGs g (fun a' b' => E a' b' ∨ (a' = a ∧ b' = b ∧ a ≠ b)) (jxs σ g 0 a (bI (fun i => jd (E a i) || decide (i = b)))) := by
  intro a' ha'
  rw [jxs_at]
  by_cases e : a' = a
  · subst e
    rw [if_pos ⟨rfl, rfl, rfl⟩]
    refine bI_ext (fun i hi => ?_)
    rw [Bool.eq_iff_iff, Bool.or_eq_true, jd_iff, jd_iff, decide_eq_true_eq]
    exact ⟨fun q => q.elim Or.inl (fun z => Or.inr ⟨rfl, z, hne⟩), fun q => q.elim Or.inl (fun z => Or.inr z.2.1)⟩
  · rw [if_neg (fun q => e q.2.2), h a' ha']
    refine bI_ext (fun i hi => jd_ext ?_)
    exact ⟨Or.inl, fun q => q.elim id (fun z => absurd z.1 e)⟩
set_option maxRecDepth 100000 in
set_option maxHeartbeats 4000000 in
theorem c_G_join {l : Launch} {Θ : jxT} (hI : jxI Θ) {g a b : Nat} {E : Nat → Nat → Prop} {σ : jxM} (hk : jxk g = .inr (.inl (0, 8))) (hp : Θ.2.2.2 g 0) (ha : a < 8) (hb : b < 8) (hE : jGs g E σ) : jxMet l y_G_join b_G_join 3 none (jrm 2) Θ [.inr (g, 0), .inl (nI a), .inl (nI b)] σ (fun r σ' => r = none ∧ jGs g (fun a' b' => E a' b' ∨ (a' = a ∧ b' = b ∧ a ≠ b)) σ' ∧ ∀ g', g' ≠ g → σ' g' = σ g') := by
  refine jxMet.of (own := "HistoryJudge$Graph") hI (by decide) rfl (Nat.le_of_ble_eq_true rfl) (fun Γ X => ?_)
  show jxW Γ Θ (fun r σ' => r = none ∧ jGs g (fun a' b' => E a' b' ∨ (a' = a ∧ b' = b ∧ a ≠ b)) σ' ∧ ∀ g', g' ≠ g → σ' g' = σ g') 0 [some (.inr (g, 0)), some (.inl (nI a)), some (.inl (nI b))] [] σ
  refine j_iload_n X (q := 1) d_G_join_0 rfl rfl ?_
  refine j_iload_n X (q := 2) d_G_join_1 rfl rfl ?_
  refine j_ncmp_eq X (tgt := 15) (q := 5) d_G_join_2 (by decide) rfl (by omega) (by omega) (fun h2 => ?_) (fun h2 => ?_)
  · have _b2 := True.intro
    refine j_vret X d_G_join_15 ?_
    exact ⟨rfl, jGs_ext hE (fun a1 b1 _ _ => ⟨Or.inl, fun q => q.elim id (fun z => absurd h2 z.2.2)⟩), fun _ _ => rfl⟩
  · have _b2 := True.intro
    refine j_aload_n X (q := 6) d_G_join_5 rfl rfl ?_
    refine j_iload_n X (q := 7) d_G_join_6 rfl rfl ?_
    refine j_dup2 X (q := 8) d_G_join_7 rfl ?_
    refine j_iald X (q := 9) d_G_join_8 hk (by decide) rfl ha hp rfl (hE a ha) ?_
    refine j_iload_n X (q := 10) d_G_join_9 rfl rfl ?_
    refine j_callSN X (n := 1) d_G_join_10 (c_J_only hI hb σ) wl208 nl3 wl36 wl207 (by decide +kernel) ⟨rfl, rfl⟩ (by decide) rfl rfl (Nat.le_of_ble_eq_true rfl) rfl (q := 13) rfl (fun r10 τ10 e10 => ?_)
    obtain ⟨rfl, rfl⟩ := e10
    refine j_ior X (q := 14) d_G_join_13 rfl ?_
    refine j_iast X (q := 15) d_G_join_14 hk (by decide) rfl ha hp rfl ?_
    refine j_vret X d_G_join_15 ?_
    rw [bI_or]
    exact ⟨rfl, jGs_add hE ha h2, fun g' hg => jxs_g _ _ _ _ _ hg⟩
def jwwx (h : jH) (x n a b : Nat) : Prop := ∃ i, 0 < i ∧ i < n ∧ hyW h (hyod h x (i - 1)) = a ∧ hyW h (hyod h x i) = b ∧ a ≠ b
theorem jwwx_succ {h : jH} {x i a b : Nat} (hi : 0 < i) : jwwx h x (i + 1) a b ↔ jwwx h x i a b ∨ (a = hyW h (hyod h x (i - 1)) ∧ b = hyW h (hyod h x i) ∧ hyW h (hyod h x (i - 1)) ≠ hyW h (hyod h x i)) := by
  constructor
  · rintro ⟨j, h1, h2, h3, h4, h5⟩
    by_cases e : j = i
    · subst e; exact Or.inr ⟨h3.symm, h4.symm, by rw [h3, h4]; exact h5⟩
    · exact Or.inl ⟨j, h1, by omega, h3, h4, h5⟩
  · rintro (⟨j, h1, h2, h3⟩ | ⟨rfl, rfl, h3⟩)
    · exact ⟨j, h1, by omega, h3⟩
    · exact ⟨i, hi, by omega, rfl, rfl, h3⟩
set_option maxRecDepth 100000 in
set_option maxHeartbeats 4000000 in
theorem c_G_drawOrder {l : Launch} {Θ : jxT} (hI : jxI Θ) (hC : ∀ g r, r < jrwJ g → Θ.2.2.2 g r) {h : jH} {σ : jxM} (hw : jHw h) (hs : jHs h σ) {E : Nat → Nat → Prop} (hE : jGs 21 E σ) {x : Nat} (hx : x < 6) : jxMet l y_G_drawOrder b_G_drawOrder 5 none (jrm 3) Θ [.inr (20, 0), .inr (1, 0), .inl (nI x)] σ (fun r σ' => r = none ∧ jGs 21 (fun a b => E a b ∨ jwwx h x (hyon h x) a b) σ' ∧ ∀ g', g' ≠ 21 → σ' g' = σ g') := by
  refine jxMet.of (own := "HistoryJudge$Graph") hI (by decide) rfl (Nat.le_of_ble_eq_true rfl) (fun Γ X => ?_)
  show jxW Γ Θ (fun r σ' => r = none ∧ jGs 21 (fun a b => E a b ∨ jwwx h x (hyon h x) a b) σ' ∧ ∀ g', g' ≠ 21 → σ' g' = σ g') 0 [some (.inr (20, 0)), some (.inr (1, 0)), some (.inl (nI x)), none, none] [] σ
  have bV := jHw_V hw
  have bO := jHw_on hw hx
  have K : ∀ (N : Nat) (i : Nat) (σ1 : jxM), 9 - i < N → 0 < i ∧ (i ≤ hyon h x ∨ i = 1) → jGs 21 (fun a b => E a b ∨ jwwx h x i a b) σ1 → (∀ g', g' ≠ 21 → σ1 g' = σ g') → jxW Γ Θ (fun r σ' => r = none ∧ jGs 21 (fun a b => E a b ∨ jwwx h x (hyon h x) a b) σ' ∧ ∀ g', g' ≠ 21 → σ' g' = σ g') 10 [some (.inr (20, 0)), some (.inr (1, 0)), some (.inl (nI x)), some (.inr (12, x)), some (.inl (nI i))] [] σ1 := by
    intro N
    induction N with
    | zero => intro i σ1 hn; exact absurd hn (Nat.not_lt_zero _)
    | succ N ih =>
      intro i σ1 hn hi hE1 hf1
      refine j_iload X (q := 12) d_G_drawOrder_10 rfl rfl ?_
      have hs1 : jHs h σ1 := jHs_keep hs (fun g hg => hf1 g (by omega))
      refine j_aload_n X (q := 13) d_G_drawOrder_12 rfl rfl ?_
      refine j_getR X (C := jR2) (T := jT2) (N := 12) (ci := 2) (j := 11) (q := 16) d_G_drawOrder_13 ju2 rfl rfl rfl (by decide) wl101 rfl (hC _ _ (by decide)) rfl ?_
      refine j_iload_n X (q := 17) d_G_drawOrder_16 rfl rfl ?_
      refine j_iald X (q := 18) d_G_drawOrder_17 rfl (by decide) rfl (by omega) (hC _ _ (by decide)) rfl (jHs_on hs1 hx) ?_
      refine j_ncmp_ge X (tgt := 54) (q := 21) d_G_drawOrder_18 (by decide) rfl (by omega) (by omega) (fun h18 => ?_) (fun h18 => ?_)
      · have _b18 := True.intro
        refine j_vret X d_G_drawOrder_54 ?_
        refine ⟨rfl, jGs_ext hE1 (fun a b _ _ => ?_), hf1⟩
        constructor
        · rintro (q | ⟨j, h1, h2, h3⟩)
          · exact Or.inl q
          · by_cases z : j < hyon h x
            · exact Or.inr ⟨j, h1, z, h3⟩
            · omega
        · rintro (q | ⟨j, h1, h2, h3⟩)
          · exact Or.inl q
          · exact Or.inr ⟨j, h1, by omega, h3⟩
      · have _b18 := True.intro
        have bo := (jHw_od hw hx (show i < hyon h x by omega)).1
        have bo1 := (jHw_od hw hx (show i - 1 < hyon h x by omega)).1
        refine j_aload_n X (q := 22) d_G_drawOrder_21 rfl rfl ?_
        refine j_getR X (C := jR1) (T := jT1) (N := 3) (ci := 1) (j := 0) (q := 25) d_G_drawOrder_22 ju1 rfl rfl rfl (by decide) wl121 rfl (hC _ _ (by decide)) rfl ?_
        refine j_aload_n X (q := 26) d_G_drawOrder_25 rfl rfl ?_
        refine j_getR X (C := jR2) (T := jT2) (N := 12) (ci := 2) (j := 1) (q := 29) d_G_drawOrder_26 ju2 rfl rfl rfl (by decide) wl76 rfl (hC _ _ (by decide)) rfl ?_
        refine j_aload_n X (q := 30) d_G_drawOrder_29 rfl rfl ?_
        refine j_iload X (q := 32) d_G_drawOrder_30 rfl rfl ?_
        refine j_iconst X (v := (nI 1)) (q := 33) d_G_drawOrder_32 (by decide +kernel) rfl ?_
        refine j_isub X (q := 34) d_G_drawOrder_33 rfl ?_
        refine j_iald X (j := i - 1) (q := 35) d_G_drawOrder_34 rfl (by decide) (pk_sub (by omega)) (by omega) (hC _ _ (by show _ < 6; omega)) rfl (jHs_od hs1 hx (by omega)) ?_
        refine j_iald X (q := 36) d_G_drawOrder_35 rfl (by decide) rfl (by omega) (hC _ _ (by decide)) rfl (jHs_W hs1 bo1) ?_
        refine j_aload_n X (q := 37) d_G_drawOrder_36 rfl rfl ?_
        refine j_getR X (C := jR2) (T := jT2) (N := 12) (ci := 2) (j := 1) (q := 40) d_G_drawOrder_37 ju2 rfl rfl rfl (by decide) wl76 rfl (hC _ _ (by decide)) rfl ?_
        refine j_aload_n X (q := 41) d_G_drawOrder_40 rfl rfl ?_
        refine j_iload X (q := 43) d_G_drawOrder_41 rfl rfl ?_
        refine j_iald X (q := 44) d_G_drawOrder_43 rfl (by decide) rfl (by omega) (hC _ _ (by show _ < 6; omega)) rfl (jHs_od hs1 hx (by omega)) ?_
        refine j_iald X (q := 45) d_G_drawOrder_44 rfl (by decide) rfl (by omega) (hC _ _ (by decide)) rfl (jHs_W hs1 bo) ?_
        refine j_callS X (n := 3) d_G_drawOrder_45 (c_G_join hI (g := 21) rfl (hC _ _ (by decide)) (jHw_W hw bo1) (jHw_W hw bo) hE1) wl204 wl205 wl39 wl206 (by decide +kernel) ⟨rfl, rfl⟩ (by decide) rfl rfl (Nat.le_of_ble_eq_true rfl) rfl (q := 48) rfl (fun r45 τ45 e45 => ?_)
        obtain ⟨rfl, hE2, hf2⟩ := e45
        refine j_iinc X (q := 51) d_G_drawOrder_48 rfl (j_inc1 _) rfl ?_
        refine j_goto X (tgt := 10) d_G_drawOrder_51 (by decide) ?_
        refine jxW.to (L' := [some (.inr (20, 0)), some (.inr (1, 0)), some (.inl (nI x)), some (.inr (12, x)), some (.inl (nI (i + 1)))]) (by simp [jfg]) ?_
        exact ih (i + 1) _ (by omega) (by omega) (jGs_ext hE2 (fun a b _ _ => by rw [jwwx_succ hi.1, or_assoc])) (fun g hg => by rw [hf2 g hg, hf1 g hg])
  refine j_aload_n X (q := 1) d_G_drawOrder_0 rfl rfl ?_
  refine j_getR X (C := jR2) (T := jT2) (N := 12) (ci := 2) (j := 10) (q := 4) d_G_drawOrder_1 ju2 rfl rfl rfl (by decide) wl98 rfl (hC _ _ (by decide)) rfl ?_
  refine j_iload_n X (q := 5) d_G_drawOrder_4 rfl rfl ?_
  refine j_aald X (q := 6) d_G_drawOrder_5 rfl (by decide) rfl (by omega) (hC _ _ (by decide)) rfl ?_
  refine j_astore_n X (j := 3) (q := 7) d_G_drawOrder_6 rfl (Nat.le_of_ble_eq_true rfl) rfl ?_
  refine j_iconst X (v := (nI 1)) (q := 8) d_G_drawOrder_7 (by decide +kernel) rfl ?_
  refine j_istore X (q := 10) d_G_drawOrder_8 (Nat.le_of_ble_eq_true rfl) rfl ?_
  refine jxW.to (L' := [some (.inr (20, 0)), some (.inr (1, 0)), some (.inl (nI x)), some (.inr (12, x)), some (.inl (nI 1))]) (by simp [jfg]) ?_
  exact K 9 1 σ (by omega) (by omega) (jGs_ext hE (fun a b _ _ => ⟨Or.inl, fun q => q.elim id (fun ⟨j, h1, h2, _⟩ => by omega)⟩)) (fun _ _ => rfl)
theorem jnwr_fun {h : jH} (hw : jHw h) {x : Nat} (hx : x < 6) {o o1 o2 : Option Nat} (h1 : jnwr h x o o1) (h2 : jnwr h x o o2) : o1 = o2 := by
  rcases h1 with ⟨rfl, a1, a2⟩ | ⟨i, b1, b2, rfl⟩
  · rcases h2 with ⟨rfl, -⟩ | ⟨j, c1, c2, rfl⟩
    · rfl
    · exfalso
      rcases c2 with ⟨e, c⟩ | ⟨c, e⟩
      · have := a1 e; omega
      · exact a2 _ e (j - 1) (by omega) rfl
  · rcases h2 with ⟨rfl, a1, a2⟩ | ⟨j, c1, c2, rfl⟩
    · exfalso
      rcases b2 with ⟨e, c⟩ | ⟨c, e⟩
      · have := a1 e; omega
      · exact a2 _ e (i - 1) (by omega) rfl
    · have e : i = j := by
        rcases b2 with ⟨e, c⟩ | ⟨c, e⟩
        · rcases c2 with ⟨e', c'⟩ | ⟨c', e'⟩
          · omega
          · rw [e] at e'; cases e'
        · rcases c2 with ⟨e', c'⟩ | ⟨c', e'⟩
          · rw [e'] at e; cases e
          · rw [e] at e'
            have := jHw_inj hw hx (show i - 1 < hyon h x by omega) (show j - 1 < hyon h x by omega) (Option.some.inj e')
            omega
      rw [e]
def jwrr (h : jH) (r a b : Nat) : Prop := ∃ v, hyrv h r = some v ∧ hyS h (hyW h v) = 2 ∧ a = hyW h v ∧ b = hyrd h r ∧ hyW h v ≠ hyrd h r
def jrwr (h : jH) (r a b : Nat) : Prop := ∃ w, jnwr h (hyri h r) (hyrv h r) (some w) ∧ a = hyrd h r ∧ b = w ∧ hyrd h r ≠ w
set_option maxRecDepth 100000 in
set_option maxHeartbeats 4000000 in
theorem c_G_drawRead {l : Launch} {Θ : jxT} (hI : jxI Θ) (hC : ∀ g r, r < jrwJ g → Θ.2.2.2 g r) {h : jH} {σ : jxM} (hw : jHw h) (hs : jHs h σ) {E1 E2 : Nat → Nat → Prop} (hE1 : jGs 22 E1 σ) (hE2 : jGs 23 E2 σ) {r : Nat} (hr : r < hyR h) : jxMet l y_G_drawRead b_G_drawRead 6 none (jrm 3) Θ [.inr (20, 0), .inr (1, 0), .inl (nI r)] σ (fun r' σ' => r' = none ∧ jGs 22 (fun a b => E1 a b ∨ jwrr h r a b) σ' ∧ jGs 23 (fun a b => E2 a b ∨ jrwr h r a b) σ' ∧ ∀ g', g' ≠ 22 → g' ≠ 23 → σ' g' = σ g') := by
  refine jxMet.of (own := "HistoryJudge$Graph") hI (by decide) rfl (Nat.le_of_ble_eq_true rfl) (fun Γ X => ?_)
  show jxW Γ Θ (fun r' σ' => r' = none ∧ jGs 22 (fun a b => E1 a b ∨ jwrr h r a b) σ' ∧ jGs 23 (fun a b => E2 a b ∨ jrwr h r a b) σ' ∧ ∀ g', g' ≠ 22 → g' ≠ 23 → σ' g' = σ g') 0 [some (.inr (20, 0)), some (.inr (1, 0)), some (.inl (nI r)), none, none, none] [] σ
  have bV := jHw_V hw
  have bR := jHw_R hw
  have b1 := jHw_rd hw hr
  have b2 := jHw_ri hw hr
  have bm := vI_m1 (hyrv h r) (fun v hv => by have := (jHw_rv hw hr hv).1; omega)
  have K : ∀ (σ1 : jxM), jGs 22 (fun a b => E1 a b ∨ jwrr h r a b) σ1 → jGs 23 E2 σ1 → (∀ g', g' ≠ 22 → σ1 g' = σ g') → jxW Γ Θ (fun r' σ' => r' = none ∧ jGs 22 (fun a b => E1 a b ∨ jwrr h r a b) σ' ∧ jGs 23 (fun a b => E2 a b ∨ jrwr h r a b) σ' ∧ ∀ g', g' ≠ 22 → g' ≠ 23 → σ' g' = σ g') 50 [some (.inr (20, 0)), some (.inr (1, 0)), some (.inl (nI r)), some (.inl (nI (hyrd h r))), some (.inl (vI (hyrv h r))), none] [] σ1 := by
    intro σ1 hE13 hE23 hf13
    have hs1 : jHs h σ1 := jHs_keep hs (fun g hg => hf13 g (by omega))
    refine j_aload_n X (q := 51) d_G_drawRead_50 rfl rfl ?_
    refine j_aload_n X (q := 52) d_G_drawRead_51 rfl rfl ?_
    refine j_getR X (C := jR2) (T := jT2) (N := 12) (ci := 2) (j := 5) (q := 55) d_G_drawRead_52 ju2 rfl rfl rfl (by decide) wl85 rfl (hC _ _ (by decide)) rfl ?_
    refine j_iload_n X (q := 56) d_G_drawRead_55 rfl rfl ?_
    refine j_iald X (q := 57) d_G_drawRead_56 rfl (by decide) rfl (by omega) (hC _ _ (by decide)) rfl (jHs_ri hs1 hr) ?_
    refine j_iload X (q := 59) d_G_drawRead_57 rfl rfl ?_
    refine j_callV X (n := 2) (C := jR2) (T := jT2) (N := 12) d_G_drawRead_59 (c_H_writerOfNext hI (fun g r q => hC g r (jHJ q)) hw hs1 (x := hyri h r) (o := hyrv h r) b2 (fun v hv => (jHw_rv hw hr hv).1)) rfl rfl (hC _ _ (by decide)) wl216 wl217 wl218 wl37 wl219 (by decide +kernel) ⟨rfl, rfl⟩ (by decide) rfl rfl (Nat.le_of_ble_eq_true rfl) rfl (q := 62) rfl (fun r59 τ59 e59 => ?_)
    obtain ⟨o2, rfl, rfl, ho8, hnx⟩ := e59
    refine j_istore X (q := 64) d_G_drawRead_62 (Nat.le_of_ble_eq_true rfl) rfl ?_
    refine j_iload X (q := 66) d_G_drawRead_64 rfl rfl ?_
    refine j_iconst X (v := (-1)) (q := 67) d_G_drawRead_66 (by decide +kernel) rfl ?_
    refine j_icmp_eq X (tgt := 80) (q := 70) d_G_drawRead_67 (by decide) rfl (fun h67 => ?_) (fun h67 => ?_)
    · have _b67 := True.intro
      have bn := (vI_m1 o2 (fun w hw2 => by have := ho8 w hw2; omega)).mp h67
      refine j_vret X d_G_drawRead_80 ?_
      exact ⟨rfl, hE13, jGs_ext hE23 (fun a b _ _ => ⟨Or.inl, fun q => q.elim id (fun ⟨w, q1, _⟩ => by have := jnwr_fun hw b2 q1 hnx; rw [bn] at this; cases this)⟩), fun g' h1 _ => hf13 g' h1⟩
    · have _b67 := True.intro
      obtain ⟨w, ew⟩ : ∃ w, o2 = some w := by
        cases e : o2 with
        | some w => exact ⟨w, rfl⟩
        | none => exact absurd ((vI_m1 o2 (fun w hw2 => by have := ho8 w hw2; omega)).mpr e) h67
      subst ew
      have b8 := ho8 w rfl
      refine j_aload_n X (q := 71) d_G_drawRead_70 rfl rfl ?_
      refine j_getR X (C := jR1) (T := jT1) (N := 3) (ci := 1) (j := 2) (q := 74) d_G_drawRead_71 ju1 rfl rfl rfl (by decide) wl127 rfl (hC _ _ (by decide)) rfl ?_
      refine j_iload_n X (q := 75) d_G_drawRead_74 rfl rfl ?_
      refine j_iload X (q := 77) d_G_drawRead_75 rfl rfl ?_
      refine j_callS X (n := 3) d_G_drawRead_77 (c_G_join hI (g := 23) (b := w) rfl (hC _ _ (by decide)) b1 b8 hE23) wl204 wl205 wl39 wl206 (by decide +kernel) ⟨rfl, rfl⟩ (by decide) rfl rfl (Nat.le_of_ble_eq_true rfl) rfl (q := 80) rfl (fun r77 τ77 e77 => ?_)
      obtain ⟨rfl, hE4, hf4⟩ := e77
      refine j_vret X d_G_drawRead_80 ?_
      refine ⟨rfl, jGs_keep hE13 (hf4 22 (by decide)), jGs_ext hE4 (fun a b _ _ => ⟨fun q => q.elim Or.inl (fun z => Or.inr ⟨w, hnx, z⟩), fun q => q.elim Or.inl (fun ⟨u, q1, z⟩ => ?_)⟩), fun g' h1 h2 => by rw [hf4 g' h2, hf13 g' h1]⟩
      have := jnwr_fun hw b2 q1 hnx
      cases this
      exact Or.inr z
  refine j_aload_n X (q := 1) d_G_drawRead_0 rfl rfl ?_
  refine j_getR X (C := jR2) (T := jT2) (N := 12) (ci := 2) (j := 4) (q := 4) d_G_drawRead_1 ju2 rfl rfl rfl (by decide) wl82 rfl (hC _ _ (by decide)) rfl ?_
  refine j_iload_n X (q := 5) d_G_drawRead_4 rfl rfl ?_
  refine j_iald X (q := 6) d_G_drawRead_5 rfl (by decide) rfl (by omega) (hC _ _ (by decide)) rfl (jHs_rd hs hr) ?_
  refine j_istore_n X (j := 3) (q := 7) d_G_drawRead_6 rfl (Nat.le_of_ble_eq_true rfl) rfl ?_
  refine j_aload_n X (q := 8) d_G_drawRead_7 rfl rfl ?_
  refine j_getR X (C := jR2) (T := jT2) (N := 12) (ci := 2) (j := 6) (q := 11) d_G_drawRead_8 ju2 rfl rfl rfl (by decide) wl88 rfl (hC _ _ (by decide)) rfl ?_
  refine j_iload_n X (q := 12) d_G_drawRead_11 rfl rfl ?_
  refine j_iald X (q := 13) d_G_drawRead_12 rfl (by decide) rfl (by omega) (hC _ _ (by decide)) rfl (jHs_rv hs hr) ?_
  refine j_istore X (q := 15) d_G_drawRead_13 (Nat.le_of_ble_eq_true rfl) rfl ?_
  refine j_iload X (q := 17) d_G_drawRead_15 rfl rfl ?_
  refine j_iconst X (v := (-1)) (q := 18) d_G_drawRead_17 (by decide +kernel) rfl ?_
  refine j_icmp_eq X (tgt := 50) (q := 21) d_G_drawRead_18 (by decide) rfl (fun h18 => ?_) (fun h18 => ?_)
  · have _b18 := True.intro
    have en := bm.mp h18
    refine jxW.to (L' := [some (.inr (20, 0)), some (.inr (1, 0)), some (.inl (nI r)), some (.inl (nI (hyrd h r))), some (.inl (vI (hyrv h r))), none]) (by simp [jfg]) ?_
    exact K σ (jGs_ext hE1 (fun a b _ _ => ⟨Or.inl, fun q => q.elim id (fun ⟨v, q1, _⟩ => by rw [en] at q1; cases q1)⟩)) hE2 (fun _ _ => rfl)
  · have _b18 := True.intro
    obtain ⟨v, ev⟩ : ∃ v, hyrv h r = some v := by
      cases e : hyrv h r with
      | some v => exact ⟨v, rfl⟩
      | none => exact absurd (bm.mpr e) h18
    have b0 := (jHw_rv hw hr ev).1
    have b3 := jHw_W hw b0
    refine j_aload_n X (q := 22) d_G_drawRead_21 rfl rfl ?_
    refine j_aload_n X (q := 23) d_G_drawRead_22 rfl rfl ?_
    refine j_getR X (C := jR2) (T := jT2) (N := 12) (ci := 2) (j := 1) (q := 26) d_G_drawRead_23 ju2 rfl rfl rfl (by decide) wl76 rfl (hC _ _ (by decide)) rfl ?_
    refine j_iload X (q := 28) d_G_drawRead_26 rfl rfl ?_
    refine j_iald X (j := v) (q := 29) d_G_drawRead_28 rfl (by decide) (show vI (hyrv h r) = nI v by rw [ev]; rfl) (by omega) (hC _ _ (by decide)) rfl (jHs_W hs b0) ?_
    refine j_callV X (n := 1) (C := jR2) (T := jT2) (N := 12) d_G_drawRead_29 (c_H_isCommitted hI (fun g r q => hC g r (jHJ q)) hw hs b3) rfl rfl (hC _ _ (by decide)) wl209 wl210 wl211 wl37 wl212 (by decide +kernel) ⟨rfl, rfl⟩ (by decide) rfl rfl (Nat.le_of_ble_eq_true rfl) rfl (q := 32) rfl (fun r29 τ29 e29 => ?_)
    obtain ⟨rfl, rfl⟩ := e29
    refine j_bif_eq X (tgt := 50) (q := 35) d_G_drawRead_32 (by decide) rfl (fun h32 => ?_) (fun h32 => ?_)
    · have _b32 := True.intro
      refine jxW.to (L' := [some (.inr (20, 0)), some (.inr (1, 0)), some (.inl (nI r)), some (.inl (nI (hyrd h r))), some (.inl (vI (hyrv h r))), none]) (by simp [jfg]) ?_
      exact K σ (jGs_ext hE1 (fun a b _ _ => ⟨Or.inl, fun q => q.elim id (fun ⟨w, q1, q2, _⟩ => by rw [ev] at q1; cases q1; rw [decide_eq_true q2] at h32; cases h32)⟩)) hE2 (fun _ _ => rfl)
    · have _b32 := True.intro
      refine j_aload_n X (q := 36) d_G_drawRead_35 rfl rfl ?_
      refine j_getR X (C := jR1) (T := jT1) (N := 3) (ci := 1) (j := 1) (q := 39) d_G_drawRead_36 ju1 rfl rfl rfl (by decide) wl124 rfl (hC _ _ (by decide)) rfl ?_
      refine j_aload_n X (q := 40) d_G_drawRead_39 rfl rfl ?_
      refine j_getR X (C := jR2) (T := jT2) (N := 12) (ci := 2) (j := 1) (q := 43) d_G_drawRead_40 ju2 rfl rfl rfl (by decide) wl76 rfl (hC _ _ (by decide)) rfl ?_
      refine j_iload X (q := 45) d_G_drawRead_43 rfl rfl ?_
      refine j_iald X (j := v) (q := 46) d_G_drawRead_45 rfl (by decide) (show vI (hyrv h r) = nI v by rw [ev]; rfl) (by omega) (hC _ _ (by decide)) rfl (jHs_W hs b0) ?_
      refine j_iload_n X (q := 47) d_G_drawRead_46 rfl rfl ?_
      refine j_callS X (n := 3) d_G_drawRead_47 (c_G_join hI (g := 22) rfl (hC _ _ (by decide)) b3 b1 hE1) wl204 wl205 wl39 wl206 (by decide +kernel) ⟨rfl, rfl⟩ (by decide) rfl rfl (Nat.le_of_ble_eq_true rfl) rfl (q := 50) rfl (fun r47 τ47 e47 => ?_)
      obtain ⟨rfl, hE3, hf3⟩ := e47
      refine jxW.to (L' := [some (.inr (20, 0)), some (.inr (1, 0)), some (.inl (nI r)), some (.inl (nI (hyrd h r))), some (.inl (vI (hyrv h r))), none]) (by simp [jfg]) ?_
      exact K _ (jGs_ext hE3 (fun a b _ _ => ⟨fun q => q.elim Or.inl (fun z => Or.inr ⟨v, ev, by simpa using h32, z⟩), fun q => q.elim Or.inl (fun ⟨w, q1, _, z⟩ => by rw [ev] at q1; cases q1; exact Or.inr z)⟩)) (jGs_keep hE2 (hf3 23 (by decide))) (fun g' hg => hf3 g' hg)
def jWW (h : jH) (a b : Nat) : Prop := ∃ x, x < 6 ∧ jwwx h x (hyon h x) a b
def jWR (h : jH) (a b : Nat) : Prop := ∃ r, r < hyR h ∧ hyS h (hyrd h r) = 2 ∧ jwrr h r a b
def jRW (h : jH) (a b : Nat) : Prop := ∃ r, r < hyR h ∧ hyS h (hyrd h r) = 2 ∧ jrwr h r a b
theorem jex_succ {n : Nat} {P : Nat → Prop} : (∃ x, x < n + 1 ∧ P x) ↔ (∃ x, x < n ∧ P x) ∨ P n := by
  constructor
  · rintro ⟨x, h1, h2⟩
    by_cases e : x = n
    · subst e; exact Or.inr h2
    · exact Or.inl ⟨x, by omega, h2⟩
  · rintro (⟨x, h1, h2⟩ | h)
    · exact ⟨x, by omega, h2⟩
    · exact ⟨n, by omega, h⟩
theorem jGs_fill {g : Nat} {σ : jxM} : jGs g (fun _ _ => False) (jfl σ g 0 8 (nI 0)) := by
  intro a ha
  have : (fun b : Nat => jd ((fun _ _ => False) a b)) = (fun _ => false) := by funext b; exact jd_no.mpr id
  show jfl σ g 0 8 (nI 0) g 0 a = bI (fun b => jd False)
  rw [show (fun _ : Nat => jd False) = (fun _ => false) by (funext b; exact jd_no.mpr id), bI_false]
  simp [jfl, ha]
  rfl
theorem jfl_g (σ : jxM) (g r n : Nat) (x : Int32) {g' : Nat} (h : g' ≠ g) : jfl σ g r n x g' = σ g' := by
  funext r' j
  simp [jfl, h]
set_option maxRecDepth 100000 in
set_option maxHeartbeats 4000000 in
theorem c_G_draw {l : Launch} {Θ : jxT} (hI : jxI Θ) (hC : ∀ g r, r < jrwJ g → Θ.2.2.2 g r) {h : jH} {σ : jxM} (hw : jHw h) (hs : jHs h σ)  : jxMet l y_G_draw b_G_draw 3 none (jrm 4) Θ [.inr (20, 0), .inr (1, 0)] σ (fun r' σ' => r' = none ∧ jGs 21 (jWW h) σ' ∧ jGs 22 (jWR h) σ' ∧ jGs 23 (jRW h) σ' ∧ ∀ g', g' < 21 ∨ 23 < g' → σ' g' = σ g') := by
  refine jxMet.of (own := "HistoryJudge$Graph") hI (by decide) rfl (Nat.le_of_ble_eq_true rfl) (fun Γ X => ?_)
  show jxW Γ Θ (fun r' σ' => r' = none ∧ jGs 21 (jWW h) σ' ∧ jGs 22 (jWR h) σ' ∧ jGs 23 (jRW h) σ' ∧ ∀ g', g' < 21 ∨ 23 < g' → σ' g' = σ g') 0 [some (.inr (20, 0)), some (.inr (1, 0)), none] [] σ
  have bV := jHw_V hw
  have bR := jHw_R hw
  have KR : ∀ (N : Nat) (r : Nat) (σ1 : jxM), 61 - r < N → r ≤ hyR h → jGs 21 (jWW h) σ1 → jGs 22 (fun a b => ∃ q, q < r ∧ hyS h (hyrd h q) = 2 ∧ jwrr h q a b) σ1 → jGs 23 (fun a b => ∃ q, q < r ∧ hyS h (hyrd h q) = 2 ∧ jrwr h q a b) σ1 → (∀ g', g' < 21 ∨ 23 < g' → σ1 g' = σ g') → jxW Γ Θ (fun r' σ' => r' = none ∧ jGs 21 (jWW h) σ' ∧ jGs 22 (jWR h) σ' ∧ jGs 23 (jRW h) σ' ∧ ∀ g', g' < 21 ∨ 23 < g' → σ' g' = σ g') 46 [some (.inr (20, 0)), some (.inr (1, 0)), some (.inl (nI r))] [] σ1 := by
    intro N
    induction N with
    | zero => intro r σ1 hn; exact absurd hn (Nat.not_lt_zero _)
    | succ N ih =>
      intro r σ1 hn hr e1 e2 e3 f1
      have hs1 : jHs h σ1 := jHs_keep hs (fun g hg => f1 g (by omega))
      refine j_iload_n X (q := 47) d_G_draw_46 rfl rfl ?_
      refine j_aload_n X (q := 48) d_G_draw_47 rfl rfl ?_
      refine j_getI X (C := jR2) (T := jT2) (N := 12) (ci := 2) (j := 8) (q := 51) d_G_draw_48 ju2 rfl rfl rfl (by decide) wl93 rfl (hC _ _ (by decide)) rfl (jHs_R hs1) ?_
      refine j_ncmp_ge X (tgt := 79) (q := 54) d_G_draw_51 (by decide) rfl (by omega) (by omega) (fun h51 => ?_) (fun h51 => ?_)
      · have _b51 := True.intro
        refine j_vret X d_G_draw_79 ?_
        have er : r = hyR h := by omega
        subst er
        exact ⟨rfl, e1, e2, e3, f1⟩
      · have _b51 := True.intro
        refine j_aload_n X (q := 55) d_G_draw_54 rfl rfl ?_
        refine j_aload_n X (q := 56) d_G_draw_55 rfl rfl ?_
        refine j_getR X (C := jR2) (T := jT2) (N := 12) (ci := 2) (j := 4) (q := 59) d_G_draw_56 ju2 rfl rfl rfl (by decide) wl82 rfl (hC _ _ (by decide)) rfl ?_
        refine j_iload_n X (q := 60) d_G_draw_59 rfl rfl ?_
        refine j_iald X (q := 61) d_G_draw_60 rfl (by decide) rfl (by omega) (hC _ _ (by decide)) rfl (jHs_rd hs1 (by omega)) ?_
        refine j_callV X (n := 1) (C := jR2) (T := jT2) (N := 12) d_G_draw_61 (c_H_isCommitted hI (fun g r q => hC g r (jHJ q)) hw hs1 (t := hyrd h r) (jHw_rd hw (by omega))) rfl rfl (hC _ _ (by decide)) wl209 wl210 wl211 wl37 wl212 (by decide +kernel) ⟨rfl, rfl⟩ (by decide) rfl rfl (Nat.le_of_ble_eq_true rfl) rfl (q := 64) rfl (fun r61 τ61 e61 => ?_)
        obtain ⟨rfl, rfl⟩ := e61
        refine j_bif_eq X (tgt := 73) (q := 67) d_G_draw_64 (by decide) rfl (fun h64 => ?_) (fun h64 => ?_)
        · have _b64 := True.intro
          refine j_iinc X (q := 76) d_G_draw_73 rfl (j_inc1 _) rfl ?_
          refine j_goto X (tgt := 46) d_G_draw_76 (by decide) ?_
          have hnc : ¬ hyS h (hyrd h r) = 2 := by simpa using h64
          exact ih (r + 1) σ1 (by omega) (by omega) e1 (jGs_ext e2 (fun a b _ _ => by rw [jex_succ]; exact ⟨Or.inl, fun q => q.elim id (fun z => absurd z.1 hnc)⟩)) (jGs_ext e3 (fun a b _ _ => by rw [jex_succ]; exact ⟨Or.inl, fun q => q.elim id (fun z => absurd z.1 hnc)⟩)) f1
        · have _b64 := True.intro
          refine j_aload_n X (q := 68) d_G_draw_67 rfl rfl ?_
          refine j_aload_n X (q := 69) d_G_draw_68 rfl rfl ?_
          refine j_iload_n X (q := 70) d_G_draw_69 rfl rfl ?_
          refine j_callV X (n := 2) (C := jR1) (T := jT1) (N := 3) d_G_draw_70 (c_G_drawRead hI hC hw hs1 e2 e3 (r := r) (by omega)) rfl rfl (hC _ _ (by decide)) wl213 wl214 wl1 wl39 wl215 (by decide +kernel) ⟨rfl, rfl⟩ (by decide) rfl rfl (Nat.le_of_ble_eq_true rfl) rfl (q := 73) rfl (fun r70 τ70 e70 => ?_)
          obtain ⟨rfl, e2x, e3x, f2x⟩ := e70
          refine j_iinc X (q := 76) d_G_draw_73 rfl (j_inc1 _) rfl ?_
          refine j_goto X (tgt := 46) d_G_draw_76 (by decide) ?_
          have hcc : hyS h (hyrd h r) = 2 := by simpa using h64
          exact ih (r + 1) _ (by omega) (by omega) (jGs_keep e1 (f2x 21 (by decide) (by decide))) (jGs_ext e2x (fun a b _ _ => by rw [jex_succ]; simp [hcc])) (jGs_ext e3x (fun a b _ _ => by rw [jex_succ]; simp [hcc])) (fun g' hg => by rw [f2x g' (by omega) (by omega), f1 g' hg])
  have K : ∀ (N : Nat) (x : Nat) (σ1 : jxM), 7 - x < N → x ≤ 6 → jGs 21 (fun a b => ∃ y, y < x ∧ jwwx h y (hyon h y) a b) σ1 → jGs 22 (fun _ _ => False) σ1 → jGs 23 (fun _ _ => False) σ1 → (∀ g', g' < 21 ∨ 23 < g' → σ1 g' = σ g') → jxW Γ Θ (fun r' σ' => r' = none ∧ jGs 21 (jWW h) σ' ∧ jGs 22 (jWR h) σ' ∧ jGs 23 (jRW h) σ' ∧ ∀ g', g' < 21 ∨ 23 < g' → σ' g' = σ g') 26 [some (.inr (20, 0)), some (.inr (1, 0)), some (.inl (nI x))] [] σ1 := by
    intro N
    induction N with
    | zero => intro x σ1 hn; exact absurd hn (Nat.not_lt_zero _)
    | succ N ih =>
      intro x σ1 hn hx e1 e2 e3 f1
      have hs1 : jHs h σ1 := jHs_keep hs (fun g hg => f1 g (by omega))
      refine j_iload_n X (q := 27) d_G_draw_26 rfl rfl ?_
      refine j_bipush X (v := (nI 6)) (q := 29) d_G_draw_27 (by decide +kernel) rfl ?_
      refine j_ncmp_ge X (tgt := 44) (q := 32) d_G_draw_29 (by decide) rfl (by omega) (by omega) (fun h29 => ?_) (fun h29 => ?_)
      · have _b29 := True.intro
        refine j_iconst X (v := (nI 0)) (q := 45) d_G_draw_44 (by decide +kernel) rfl ?_
        refine j_istore_n X (j := 2) (q := 46) d_G_draw_45 rfl (Nat.le_of_ble_eq_true rfl) rfl ?_
        have ex : x = 6 := by omega
        subst ex
        refine jxW.to (L' := [some (.inr (20, 0)), some (.inr (1, 0)), some (.inl (nI 0))]) (by simp [jfg]) ?_
        exact KR 62 0 σ1 (by omega) (by omega) e1 (jGs_ext e2 (fun a b _ _ => ⟨fun q => q.elim, fun ⟨r, q, _⟩ => by omega⟩)) (jGs_ext e3 (fun a b _ _ => ⟨fun q => q.elim, fun ⟨r, q, _⟩ => by omega⟩)) f1
      · have _b29 := True.intro
        refine j_aload_n X (q := 33) d_G_draw_32 rfl rfl ?_
        refine j_aload_n X (q := 34) d_G_draw_33 rfl rfl ?_
        refine j_iload_n X (q := 35) d_G_draw_34 rfl rfl ?_
        refine j_callV X (n := 2) (C := jR1) (T := jT1) (N := 3) d_G_draw_35 (c_G_drawOrder hI hC hw hs1 e1 (x := x) (by omega)) rfl rfl (hC _ _ (by decide)) wl201 wl202 wl0 wl39 wl203 (by decide +kernel) ⟨rfl, rfl⟩ (by decide) rfl rfl (Nat.le_of_ble_eq_true rfl) rfl (q := 38) rfl (fun r35 τ35 e35 => ?_)
        obtain ⟨rfl, e1x, f1x⟩ := e35
        refine j_iinc X (q := 41) d_G_draw_38 rfl (j_inc1 _) rfl ?_
        refine j_goto X (tgt := 26) d_G_draw_41 (by decide) ?_
        exact ih (x + 1) _ (by omega) (by omega) (jGs_ext e1x (fun a b _ _ => by rw [jex_succ])) (jGs_keep e2 (f1x 22 (by decide))) (jGs_keep e3 (f1x 23 (by decide))) (fun g' hg => by rw [f1x g' (by omega), f1 g' hg])
  refine j_aload_n X (q := 1) d_G_draw_0 rfl rfl ?_
  refine j_getR X (C := jR1) (T := jT1) (N := 3) (ci := 1) (j := 0) (q := 4) d_G_draw_1 ju1 rfl rfl rfl (by decide) wl121 rfl (hC _ _ (by decide)) rfl ?_
  refine j_iconst X (v := (nI 0)) (q := 5) d_G_draw_4 (by decide +kernel) rfl ?_
  refine j_callS X (n := 2) d_G_draw_5 (c_A_fill hI (g := 21) (r := 0) (n := 8) rfl (by decide) (hC _ _ (by decide)) (nI 0) _) wl200 wl71 wl38 wl72 (by decide +kernel) ⟨rfl, rfl⟩ (by decide) rfl rfl (Nat.le_of_ble_eq_true rfl) rfl (q := 8) rfl (fun r5 τ5 e5 => ?_)
  obtain ⟨rfl, rfl⟩ := e5
  refine j_aload_n X (q := 9) d_G_draw_8 rfl rfl ?_
  refine j_getR X (C := jR1) (T := jT1) (N := 3) (ci := 1) (j := 1) (q := 12) d_G_draw_9 ju1 rfl rfl rfl (by decide) wl124 rfl (hC _ _ (by decide)) rfl ?_
  refine j_iconst X (v := (nI 0)) (q := 13) d_G_draw_12 (by decide +kernel) rfl ?_
  refine j_callS X (n := 2) d_G_draw_13 (c_A_fill hI (g := 22) (r := 0) (n := 8) rfl (by decide) (hC _ _ (by decide)) (nI 0) _) wl200 wl71 wl38 wl72 (by decide +kernel) ⟨rfl, rfl⟩ (by decide) rfl rfl (Nat.le_of_ble_eq_true rfl) rfl (q := 16) rfl (fun r13 τ13 e13 => ?_)
  obtain ⟨rfl, rfl⟩ := e13
  refine j_aload_n X (q := 17) d_G_draw_16 rfl rfl ?_
  refine j_getR X (C := jR1) (T := jT1) (N := 3) (ci := 1) (j := 2) (q := 20) d_G_draw_17 ju1 rfl rfl rfl (by decide) wl127 rfl (hC _ _ (by decide)) rfl ?_
  refine j_iconst X (v := (nI 0)) (q := 21) d_G_draw_20 (by decide +kernel) rfl ?_
  refine j_callS X (n := 2) d_G_draw_21 (c_A_fill hI (g := 23) (r := 0) (n := 8) rfl (by decide) (hC _ _ (by decide)) (nI 0) _) wl200 wl71 wl38 wl72 (by decide +kernel) ⟨rfl, rfl⟩ (by decide) rfl rfl (Nat.le_of_ble_eq_true rfl) rfl (q := 24) rfl (fun r21 τ21 e21 => ?_)
  obtain ⟨rfl, rfl⟩ := e21
  refine j_iconst X (v := (nI 0)) (q := 25) d_G_draw_24 (by decide +kernel) rfl ?_
  refine j_istore_n X (j := 2) (q := 26) d_G_draw_25 rfl (Nat.le_of_ble_eq_true rfl) rfl ?_
  refine jxW.to (L' := [some (.inr (20, 0)), some (.inr (1, 0)), some (.inl (nI 0))]) (by simp [jfg]) ?_
  refine K 8 0 _ (by omega) (by omega) ?_ ?_ ?_ ?_
  · exact jGs_ext (jGs_keep jGs_fill (by rw [jfl_g _ _ _ _ _ (by decide), jfl_g _ _ _ _ _ (by decide)])) (fun a b _ _ => ⟨fun q => q.elim, fun ⟨x, q, _⟩ => by omega⟩)
  · exact jGs_keep jGs_fill (by rw [jfl_g _ _ _ _ _ (by decide)])
  · exact jGs_fill
  · exact fun g' hg => by rw [jfl_g _ _ _ _ _ (by omega), jfl_g _ _ _ _ _ (by omega), jfl_g _ _ _ _ _ (by omega)]
end
section
/-! The search for cycles: layers, the shortest, the row. -/
theorem bI_meet {S U : Nat → Bool} : bI S &&& bI U = 0 ↔ jE8 (fun u => S u && U u) = false := by
  rw [bI_and, bI_zero, Bool.eq_false_iff, Ne, jE8_iff]
  constructor
  · rintro h ⟨u, h1, h2⟩
    rw [h u h1] at h2; cases h2
  · intro h i hi
    cases e : (S i && U i) with
    | false => rfl
    | true => exact absurd ⟨i, hi, e⟩ h
theorem bI_or0 {S : Nat → Bool} : bI S ||| nI 0 = bI S := by
  rw [show nI 0 = bI (fun _ => false) from bI_false.symm, bI_or]
  exact bI_ext (fun i _ => by simp)
theorem bI_n0 : nI 0 = bI (fun _ => false) := bI_false.symm
theorem jlt_succ {i t : Nat} (h : i ≠ t) : decide (i < t + 1) = decide (i < t) := by
  by_cases z : i < t
  · simp [z, Nat.lt_succ_of_lt z]
  · have : ¬ i < t + 1 := by omega
    simp [z, this]
set_option maxRecDepth 100000 in
set_option maxHeartbeats 4000000 in
theorem c_C_leadingInto {l : Launch} {Θ : jxT} (hI : jxI Θ) {g : Nat} {E : Nat → Nat → Bool} {σ : jxM} (hk : jxk g = .inr (.inl (0, 8))) (hp : Θ.2.2.2 g 0) (hE : jGb g E σ) (U : Nat → Bool) : jxMet l y_C_leadingInto b_C_leadingInto 4 (some FieldType.int) (jrm 2) Θ [.inr (g, 0), .inl (bI U)] σ (jan (bI (fun t => jE8 (fun u => E t u && U u))) σ) := by
  refine jxMet.of (own := "HistoryJudge$CycleSearch") hI (by decide) rfl (Nat.le_of_ble_eq_true rfl) (fun Γ X => ?_)
  show jxW Γ Θ (jan (bI (fun t => jE8 (fun u => E t u && U u))) σ) 0 [some (.inr (g, 0)), some (.inl (bI U)), none, none] [] σ
  have K : ∀ (N : Nat) (t : Nat), 9 - t < N → t ≤ 8 → jxW Γ Θ (jan (bI (fun t => jE8 (fun u => E t u && U u))) σ) 4 [some (.inr (g, 0)), some (.inl (bI U)), some (.inl (bI (fun i => decide (i < t) && jE8 (fun u => E i u && U u)))), some (.inl (nI (t)))] [] σ := by
    intro N
    induction N with
    | zero => intro t hn; exact absurd hn (Nat.not_lt_zero _)
    | succ N ih =>
      intro t hn ht
      refine j_iload_n X (q := 5) d_C_leadingInto_4 rfl rfl ?_
      refine j_bipush X (v := (nI 8)) (q := 7) d_C_leadingInto_5 (by decide +kernel) rfl ?_
      refine j_ncmp_ge X (tgt := 31) (q := 10) d_C_leadingInto_7 (by decide) rfl (by omega) (by omega) (fun h7 => ?_) (fun h7 => ?_)
      · have _b7 := True.intro
        refine j_iload_n X (q := 32) d_C_leadingInto_31 rfl rfl ?_
        refine j_iret X d_C_leadingInto_32 ?_
        exact ⟨by rw [bI_ext (S := fun i => decide (i < t) && jE8 (fun u => E i u && U u)) (T := fun t => jE8 (fun u => E t u && U u)) (fun i hi => by simp [show i < t by omega])], rfl⟩
      · have _b7 := True.intro
        refine j_aload_n X (q := 11) d_C_leadingInto_10 rfl rfl ?_
        refine j_iload_n X (q := 12) d_C_leadingInto_11 rfl rfl ?_
        refine j_iald X (q := 13) d_C_leadingInto_12 hk (by decide) rfl (by omega) hp rfl (hE t (by omega)) ?_
        refine j_iload_n X (q := 14) d_C_leadingInto_13 rfl rfl ?_
        refine j_iand X (q := 15) d_C_leadingInto_14 rfl ?_
        refine j_if_eq X (tgt := 25) (q := 18) d_C_leadingInto_15 (by decide) rfl (fun h15 => ?_) (fun h15 => ?_)
        · have _b15 := True.intro
          refine j_iinc X (q := 28) d_C_leadingInto_25 rfl (j_inc1 _) rfl ?_
          refine j_goto X (tgt := 4) d_C_leadingInto_28 (by decide) ?_
          have e : bI (fun i => decide (i < t) && jE8 (fun u => E i u && U u)) = bI (fun i => decide (i < t + 1) && jE8 (fun u => E i u && U u)) := bI_ext (fun i hi => by
            by_cases q : i = t
            · subst q; simp [bI_meet.mp h15]
            · rw [jlt_succ q])
          refine jxW.to (L' := [some (.inr (g, 0)), some (.inl (bI U)), some (.inl (bI (fun i => decide (i < t + 1) && jE8 (fun u => E i u && U u)))), some (.inl (nI (t + 1)))]) (by simp [jfg, e]) ?_
          exact ih (t + 1) (by omega) (by omega)
        · have _b15 := True.intro
          refine j_iload_n X (q := 19) d_C_leadingInto_18 rfl rfl ?_
          refine j_iload_n X (q := 20) d_C_leadingInto_19 rfl rfl ?_
          refine j_callSN X (n := 1) d_C_leadingInto_20 (c_J_only hI (t := t) (by omega) σ) wl208 nl4 wl36 wl207 (by decide +kernel) ⟨rfl, rfl⟩ (by decide) rfl rfl (Nat.le_of_ble_eq_true rfl) rfl (q := 23) rfl (fun r20 τ20 e20 => ?_)
          obtain ⟨rfl, rfl⟩ := e20
          refine j_ior X (q := 24) d_C_leadingInto_23 rfl ?_
          refine j_istore_n X (j := 2) (q := 25) d_C_leadingInto_24 rfl (Nat.le_of_ble_eq_true rfl) rfl ?_
          refine j_iinc X (q := 28) d_C_leadingInto_25 rfl (j_inc1 _) rfl ?_
          refine j_goto X (tgt := 4) d_C_leadingInto_28 (by decide) ?_
          have e : bI (fun i => decide (i < t) && jE8 (fun u => E i u && U u)) ||| bI (fun i => decide (i = t)) = bI (fun i => decide (i < t + 1) && jE8 (fun u => E i u && U u)) := by
            rw [bI_or]
            exact bI_ext (fun i hi => by
              by_cases q : i = t
              · subst q
                have z : jE8 (fun u => E i u && U u) = true := by
                  cases y : jE8 (fun u => E i u && U u) with
                  | true => rfl
                  | false => exact absurd (bI_meet.mpr y) h15
                simp [z]
              · rw [jlt_succ q]; simp [q])
          refine jxW.to (L' := [some (.inr (g, 0)), some (.inl (bI U)), some (.inl (bI (fun i => decide (i < t + 1) && jE8 (fun u => E i u && U u)))), some (.inl (nI (t + 1)))]) (by simp [jfg, e]) ?_
          exact ih (t + 1) (by omega) (by omega)
  refine j_iconst X (v := (nI 0)) (q := 1) d_C_leadingInto_0 (by decide +kernel) rfl ?_
  refine j_istore_n X (j := 2) (q := 2) d_C_leadingInto_1 rfl (Nat.le_of_ble_eq_true rfl) rfl ?_
  refine j_iconst X (v := (nI 0)) (q := 3) d_C_leadingInto_2 (by decide +kernel) rfl ?_
  refine j_istore_n X (j := 3) (q := 4) d_C_leadingInto_3 rfl (Nat.le_of_ble_eq_true rfl) rfl ?_
  refine jxW.to (L' := [some (.inr (g, 0)), some (.inl (bI U)), some (.inl (bI (fun i => decide (i < 0) && jE8 (fun u => E i u && U u)))), some (.inl (nI (0)))]) (by simp [jfg, bI_n0]) ?_
  exact K 10 0 (by omega) (by omega)
set_option maxRecDepth 100000 in
set_option maxHeartbeats 4000000 in
theorem c_C_shortest {l : Launch} {Θ : jxT} (hI : jxI Θ) {g : Nat} {w : Nat → Nat → Bool} {σ : jxM} (hk : jxk g = .inr (.inl (0, 9))) (hp : Θ.2.2.2 g 0) (hW : ∀ k, k ≤ 8 → σ g 0 k = bI (w k)) {t : Nat} (ht : t < 8) : jxMet l y_C_shortest b_C_shortest 3 (some FieldType.int) (jrm 3) Θ [.inr (g, 0), .inl (nI t)] σ (fun r σ' => ∃ s, s ≤ 8 ∧ r = some (.inl (nI s)) ∧ σ = σ' ∧ jsp (fun k => w k t) s) := by
  refine jxMet.of (own := "HistoryJudge$CycleSearch") hI (by decide) rfl (Nat.le_of_ble_eq_true rfl) (fun Γ X => ?_)
  show jxW Γ Θ (fun r σ' => ∃ s, s ≤ 8 ∧ r = some (.inl (nI s)) ∧ σ = σ' ∧ jsp (fun k => w k t) s) 0 [some (.inr (g, 0)), some (.inl (nI t)), none] [] σ
  have K : ∀ (N : Nat) (k : Nat), 9 - k < N → (2 ≤ k ∧ k ≤ 9) → (∀ j, 2 ≤ j → j < k → w j t = false) → jxW Γ Θ (fun r σ' => ∃ s, s ≤ 8 ∧ r = some (.inl (nI s)) ∧ σ = σ' ∧ jsp (fun k => w k t) s) 2 [some (.inr (g, 0)), some (.inl (nI t)), some (.inl (nI k))] [] σ := by
    intro N
    induction N with
    | zero => intro k hn; exact absurd hn (Nat.not_lt_zero _)
    | succ N ih =>
      intro k hn hk2 hno
      refine j_iload_n X (q := 3) d_C_shortest_2 rfl rfl ?_
      refine j_bipush X (v := (nI 8)) (q := 5) d_C_shortest_3 (by decide +kernel) rfl ?_
      refine j_ncmp_gt X (tgt := 26) (q := 8) d_C_shortest_5 (by decide) rfl (by omega) (by omega) (fun h5 => ?_) (fun h5 => ?_)
      · have _b5 := True.intro
        refine j_iconst X (v := (nI 0)) (q := 27) d_C_shortest_26 (by decide +kernel) rfl ?_
        refine j_iret X d_C_shortest_27 ?_
        exact ⟨0, by omega, rfl, rfl, Or.inl ⟨rfl, fun j h1 h2 => hno j h1 (by omega)⟩⟩
      · have _b5 := True.intro
        refine j_aload_n X (q := 9) d_C_shortest_8 rfl rfl ?_
        refine j_iload_n X (q := 10) d_C_shortest_9 rfl rfl ?_
        refine j_iald X (q := 11) d_C_shortest_10 hk (by decide) rfl (by omega) hp rfl (hW k (by omega)) ?_
        refine j_iload_n X (q := 12) d_C_shortest_11 rfl rfl ?_
        refine j_callSN X (n := 2) d_C_shortest_12 (c_J_has hI (w k) ht σ) wl225 nl5 wl36 wl224 (by decide +kernel) ⟨rfl, rfl⟩ (by decide) rfl rfl (Nat.le_of_ble_eq_true rfl) rfl (q := 15) rfl (fun r12 τ12 e12 => ?_)
        obtain ⟨rfl, rfl⟩ := e12
        refine j_bif_eq X (tgt := 20) (q := 18) d_C_shortest_15 (by decide) rfl (fun h15 => ?_) (fun h15 => ?_)
        · have _b15 := True.intro
          refine j_iinc X (q := 23) d_C_shortest_20 rfl (j_inc1 _) rfl ?_
          refine j_goto X (tgt := 2) d_C_shortest_23 (by decide) ?_
          exact ih (k + 1) (by omega) (by omega) (fun j h1 h2 => by
            by_cases q : j = k
            · rw [q]; exact h15
            · exact hno j h1 (by omega))
        · have _b15 := True.intro
          refine j_iload_n X (q := 19) d_C_shortest_18 rfl rfl ?_
          refine j_iret X d_C_shortest_19 ?_
          exact ⟨k, by omega, rfl, rfl, Or.inr ⟨by omega, by omega, h15, hno⟩⟩
  refine j_iconst X (v := (nI 2)) (q := 1) d_C_shortest_0 (by decide +kernel) rfl ?_
  refine j_istore_n X (j := 2) (q := 2) d_C_shortest_1 rfl (Nat.le_of_ble_eq_true rfl) rfl ?_
  exact K 9 2 (by omega) (by omega) (fun j h1 h2 => by omega)
/-- the plain edges of kind k -/
def jpl (k : Nat) (A B D : Nat → Nat → Bool) (a b : Nat) : Bool := (A a b || (decide (1 ≤ k) && B a b)) || (decide (3 ≤ k) && D a b)
def jse (k : Nat) (A B D : Nat → Nat → Bool) (t : Nat) (σ1 : jxM) : Prop := ∀ a, a < t → σ1 25 0 a = bI (jpl k A B D a) ∧ σ1 26 0 a = bI (D a)
theorem jse_step {k t : Nat} {A B D : Nat → Nat → Bool} {σ1 : jxM} {v : Int32} (h : jse k A B D t σ1) (hv : v = bI (jpl k A B D t)) : jse k A B D (t + 1) (jxs (jxs σ1 25 0 t v) 26 0 t (bI (D t))) := by
  intro a ha
  by_cases e : a = t
  · subst e; simp [jxs_at, hv]
  · simp [jxs_at, e]; exact h a (by omega)
set_option maxRecDepth 100000 in
set_option maxHeartbeats 4000000 in
theorem c_C_sortEdges {l : Launch} {Θ : jxT} (hI : jxI Θ) (hC : ∀ g r, r < jrwJ g → Θ.2.2.2 g r) {A B D : Nat → Nat → Bool} {σ : jxM} (hA : jGb 21 A σ) (hB : jGb 22 B σ) (hD : jGb 23 D σ) {k : Nat} (hk4 : k < 4) : jxMet l y_C_sortEdges b_C_sortEdges 6 none (jrm 1) Θ [.inr (24, 0), .inr (20, 0), .inl (nI k)] σ (fun r σ' => r = none ∧ jGb 25 (jpl k A B D) σ' ∧ jGb 26 D σ' ∧ ∀ g', g' ≠ 25 → g' ≠ 26 → σ' g' = σ g') := by
  refine jxMet.of (own := "HistoryJudge$CycleSearch") hI (by decide) rfl (Nat.le_of_ble_eq_true rfl) (fun Γ X => ?_)
  show jxW Γ Θ (fun r σ' => r = none ∧ jGb 25 (jpl k A B D) σ' ∧ jGb 26 D σ' ∧ ∀ g', g' ≠ 25 → g' ≠ 26 → σ' g' = σ g') 0 [some (.inr (24, 0)), some (.inr (20, 0)), some (.inl (nI k)), none, none, none] [] σ
  have K : ∀ (N : Nat) (t : Nat) (σ1 : jxM), 8 - t < N → t ≤ 8 → jse k A B D t σ1 → (∀ g', g' ≠ 25 → g' ≠ 26 → σ1 g' = σ g') → jxW Γ Θ (fun r σ' => r = none ∧ jGb 25 (jpl k A B D) σ' ∧ jGb 26 D σ' ∧ ∀ g', g' ≠ 25 → g' ≠ 26 → σ' g' = σ g') 2 [some (.inr (24, 0)), some (.inr (20, 0)), some (.inl (nI k)), some (.inl (nI t)), none, none] [] σ1 := by
    intro N
    induction N with
    | zero => intro t σ1 hn; exact absurd hn (Nat.not_lt_zero _)
    | succ N ih =>
      intro t σ1 hn ht hj hf
      refine j_iload_n X (q := 3) d_C_sortEdges_2 rfl rfl ?_
      refine j_bipush X (v := (nI 8)) (q := 5) d_C_sortEdges_3 (by decide +kernel) rfl ?_
      refine j_ncmp_ge X (tgt := 78) (q := 8) d_C_sortEdges_5 (by decide) rfl (by omega) (by omega) (fun h5 => ?_) (fun h5 => ?_)
      · have _b5 := True.intro
        refine j_vret X d_C_sortEdges_78 ?_
        have e : t = 8 := by omega
        subst e
        exact ⟨rfl, fun a ha => (hj a ha).1, fun a ha => (hj a ha).2, hf⟩
      · have _b5 := True.intro
        refine j_iload_n X (q := 9) d_C_sortEdges_8 rfl rfl ?_
        refine j_iconst X (v := (nI 1)) (q := 10) d_C_sortEdges_9 (by decide +kernel) rfl ?_
        refine j_ncmp_lt X (tgt := 22) (q := 13) d_C_sortEdges_10 (by decide) rfl (by omega) (by omega) (fun h10 => ?_) (fun h10 => ?_)
        · have _b10 := True.intro
          refine j_iconst X (v := (nI 0)) (q := 23) d_C_sortEdges_22 (by decide +kernel) rfl ?_
          refine j_istore X (q := 25) d_C_sortEdges_23 (Nat.le_of_ble_eq_true rfl) rfl ?_
          refine j_iload_n X (q := 26) d_C_sortEdges_25 rfl rfl ?_
          refine j_iconst X (v := (nI 3)) (q := 27) d_C_sortEdges_26 (by decide +kernel) rfl ?_
          refine j_ncmp_lt X (tgt := 39) (q := 30) d_C_sortEdges_27 (by decide) rfl (by omega) (by omega) (fun h27 => ?_) (fun h27 => ?_)
          · have _b27 := True.intro
            refine j_iconst X (v := (nI 0)) (q := 40) d_C_sortEdges_39 (by decide +kernel) rfl ?_
            refine j_istore X (q := 42) d_C_sortEdges_40 (Nat.le_of_ble_eq_true rfl) rfl ?_
            refine j_aload_n X (q := 43) d_C_sortEdges_42 rfl rfl ?_
            refine j_getR X (C := jR0) (T := jT0) (N := 5) (ci := 0) (j := 0) (q := 46) d_C_sortEdges_43 ju0 rfl rfl rfl (by decide) wl138 rfl (hC _ _ (by decide)) rfl ?_
            refine j_iload_n X (q := 47) d_C_sortEdges_46 rfl rfl ?_
            refine j_aload_n X (q := 48) d_C_sortEdges_47 rfl rfl ?_
            refine j_getR X (C := jR1) (T := jT1) (N := 3) (ci := 1) (j := 0) (q := 51) d_C_sortEdges_48 ju1 rfl rfl rfl (by decide) wl122 rfl (hC _ _ (by decide)) rfl ?_
            refine j_iload_n X (q := 52) d_C_sortEdges_51 rfl rfl ?_
            refine j_iald X (q := 53) d_C_sortEdges_52 rfl (by decide) rfl (by omega) (hC _ _ (by decide)) rfl (show _ = bI (A t) by (rw [hf 21 (by decide) (by decide)]; exact hA t (by omega))) ?_
            refine j_iload X (q := 55) d_C_sortEdges_53 rfl rfl ?_
            refine j_ior X (q := 56) d_C_sortEdges_55 rfl ?_
            refine j_iload X (q := 58) d_C_sortEdges_56 rfl rfl ?_
            refine j_ior X (q := 59) d_C_sortEdges_58 rfl ?_
            refine j_iast X (q := 60) d_C_sortEdges_59 rfl (by decide) rfl (by omega) (hC _ _ (by decide)) rfl ?_
            refine j_aload_n X (q := 61) d_C_sortEdges_60 rfl rfl ?_
            refine j_getR X (C := jR0) (T := jT0) (N := 5) (ci := 0) (j := 1) (q := 64) d_C_sortEdges_61 ju0 rfl rfl rfl (by decide) wl139 rfl (hC _ _ (by decide)) rfl ?_
            refine j_iload_n X (q := 65) d_C_sortEdges_64 rfl rfl ?_
            refine j_aload_n X (q := 66) d_C_sortEdges_65 rfl rfl ?_
            refine j_getR X (C := jR1) (T := jT1) (N := 3) (ci := 1) (j := 2) (q := 69) d_C_sortEdges_66 ju1 rfl rfl rfl (by decide) wl128 rfl (hC _ _ (by decide)) rfl ?_
            refine j_iload_n X (q := 70) d_C_sortEdges_69 rfl rfl ?_
            refine j_iald X (q := 71) d_C_sortEdges_70 rfl (by decide) rfl (by omega) (hC _ _ (by decide)) rfl (show _ = bI (D t) by (rw [jxs_g _ _ _ _ _ (by decide), hf 23 (by decide) (by decide)]; exact hD t (by omega))) ?_
            refine j_iast X (q := 72) d_C_sortEdges_71 rfl (by decide) rfl (by omega) (hC _ _ (by decide)) rfl ?_
            refine j_iinc X (q := 75) d_C_sortEdges_72 rfl (j_inc1 _) rfl ?_
            refine j_goto X (tgt := 2) d_C_sortEdges_75 (by decide) ?_
            refine jxW.to (L' := [some (.inr (24, 0)), some (.inr (20, 0)), some (.inl (nI k)), some (.inl (nI (t + 1))), none, none]) (by simp [jfg]) ?_
            exact ih (t + 1) _ (by omega) (by omega) (jse_step hj (by rw [bI_or0, bI_or0]; refine bI_ext (fun i _ => ?_); simp [jpl, show ¬ 1 ≤ k by omega, show ¬ 3 ≤ k by omega])) (fun g' h1 h2 => by rw [jxs_g _ _ _ _ _ h2, jxs_g _ _ _ _ _ h1, hf g' h1 h2])
          · have _b27 := True.intro
            refine j_aload_n X (q := 31) d_C_sortEdges_30 rfl rfl ?_
            refine j_getR X (C := jR1) (T := jT1) (N := 3) (ci := 1) (j := 2) (q := 34) d_C_sortEdges_31 ju1 rfl rfl rfl (by decide) wl128 rfl (hC _ _ (by decide)) rfl ?_
            refine j_iload_n X (q := 35) d_C_sortEdges_34 rfl rfl ?_
            refine j_iald X (q := 36) d_C_sortEdges_35 rfl (by decide) rfl (by omega) (hC _ _ (by decide)) rfl (show _ = bI (D t) by (rw [hf 23 (by decide) (by decide)]; exact hD t (by omega))) ?_
            refine j_goto X (tgt := 40) d_C_sortEdges_36 (by decide) ?_
            refine j_istore X (q := 42) d_C_sortEdges_40 (Nat.le_of_ble_eq_true rfl) rfl ?_
            refine j_aload_n X (q := 43) d_C_sortEdges_42 rfl rfl ?_
            refine j_getR X (C := jR0) (T := jT0) (N := 5) (ci := 0) (j := 0) (q := 46) d_C_sortEdges_43 ju0 rfl rfl rfl (by decide) wl138 rfl (hC _ _ (by decide)) rfl ?_
            refine j_iload_n X (q := 47) d_C_sortEdges_46 rfl rfl ?_
            refine j_aload_n X (q := 48) d_C_sortEdges_47 rfl rfl ?_
            refine j_getR X (C := jR1) (T := jT1) (N := 3) (ci := 1) (j := 0) (q := 51) d_C_sortEdges_48 ju1 rfl rfl rfl (by decide) wl122 rfl (hC _ _ (by decide)) rfl ?_
            refine j_iload_n X (q := 52) d_C_sortEdges_51 rfl rfl ?_
            refine j_iald X (q := 53) d_C_sortEdges_52 rfl (by decide) rfl (by omega) (hC _ _ (by decide)) rfl (show _ = bI (A t) by (rw [hf 21 (by decide) (by decide)]; exact hA t (by omega))) ?_
            refine j_iload X (q := 55) d_C_sortEdges_53 rfl rfl ?_
            refine j_ior X (q := 56) d_C_sortEdges_55 rfl ?_
            refine j_iload X (q := 58) d_C_sortEdges_56 rfl rfl ?_
            refine j_ior X (q := 59) d_C_sortEdges_58 rfl ?_
            refine j_iast X (q := 60) d_C_sortEdges_59 rfl (by decide) rfl (by omega) (hC _ _ (by decide)) rfl ?_
            refine j_aload_n X (q := 61) d_C_sortEdges_60 rfl rfl ?_
            refine j_getR X (C := jR0) (T := jT0) (N := 5) (ci := 0) (j := 1) (q := 64) d_C_sortEdges_61 ju0 rfl rfl rfl (by decide) wl139 rfl (hC _ _ (by decide)) rfl ?_
            refine j_iload_n X (q := 65) d_C_sortEdges_64 rfl rfl ?_
            refine j_aload_n X (q := 66) d_C_sortEdges_65 rfl rfl ?_
            refine j_getR X (C := jR1) (T := jT1) (N := 3) (ci := 1) (j := 2) (q := 69) d_C_sortEdges_66 ju1 rfl rfl rfl (by decide) wl128 rfl (hC _ _ (by decide)) rfl ?_
            refine j_iload_n X (q := 70) d_C_sortEdges_69 rfl rfl ?_
            refine j_iald X (q := 71) d_C_sortEdges_70 rfl (by decide) rfl (by omega) (hC _ _ (by decide)) rfl (show _ = bI (D t) by (rw [jxs_g _ _ _ _ _ (by decide), hf 23 (by decide) (by decide)]; exact hD t (by omega))) ?_
            refine j_iast X (q := 72) d_C_sortEdges_71 rfl (by decide) rfl (by omega) (hC _ _ (by decide)) rfl ?_
            refine j_iinc X (q := 75) d_C_sortEdges_72 rfl (j_inc1 _) rfl ?_
            refine j_goto X (tgt := 2) d_C_sortEdges_75 (by decide) ?_
            refine jxW.to (L' := [some (.inr (24, 0)), some (.inr (20, 0)), some (.inl (nI k)), some (.inl (nI (t + 1))), none, none]) (by simp [jfg]) ?_
            exact ih (t + 1) _ (by omega) (by omega) (jse_step hj (by omega)) (fun g' h1 h2 => by rw [jxs_g _ _ _ _ _ h2, jxs_g _ _ _ _ _ h1, hf g' h1 h2])
        · have _b10 := True.intro
          refine j_aload_n X (q := 14) d_C_sortEdges_13 rfl rfl ?_
          refine j_getR X (C := jR1) (T := jT1) (N := 3) (ci := 1) (j := 1) (q := 17) d_C_sortEdges_14 ju1 rfl rfl rfl (by decide) wl125 rfl (hC _ _ (by decide)) rfl ?_
          refine j_iload_n X (q := 18) d_C_sortEdges_17 rfl rfl ?_
          refine j_iald X (q := 19) d_C_sortEdges_18 rfl (by decide) rfl (by omega) (hC _ _ (by decide)) rfl (show _ = bI (B t) by (rw [hf 22 (by decide) (by decide)]; exact hB t (by omega))) ?_
          refine j_goto X (tgt := 23) d_C_sortEdges_19 (by decide) ?_
          refine j_istore X (q := 25) d_C_sortEdges_23 (Nat.le_of_ble_eq_true rfl) rfl ?_
          refine j_iload_n X (q := 26) d_C_sortEdges_25 rfl rfl ?_
          refine j_iconst X (v := (nI 3)) (q := 27) d_C_sortEdges_26 (by decide +kernel) rfl ?_
          refine j_ncmp_lt X (tgt := 39) (q := 30) d_C_sortEdges_27 (by decide) rfl (by omega) (by omega) (fun h27 => ?_) (fun h27 => ?_)
          · have _b27 := True.intro
            refine j_iconst X (v := (nI 0)) (q := 40) d_C_sortEdges_39 (by decide +kernel) rfl ?_
            refine j_istore X (q := 42) d_C_sortEdges_40 (Nat.le_of_ble_eq_true rfl) rfl ?_
            refine j_aload_n X (q := 43) d_C_sortEdges_42 rfl rfl ?_
            refine j_getR X (C := jR0) (T := jT0) (N := 5) (ci := 0) (j := 0) (q := 46) d_C_sortEdges_43 ju0 rfl rfl rfl (by decide) wl138 rfl (hC _ _ (by decide)) rfl ?_
            refine j_iload_n X (q := 47) d_C_sortEdges_46 rfl rfl ?_
            refine j_aload_n X (q := 48) d_C_sortEdges_47 rfl rfl ?_
            refine j_getR X (C := jR1) (T := jT1) (N := 3) (ci := 1) (j := 0) (q := 51) d_C_sortEdges_48 ju1 rfl rfl rfl (by decide) wl122 rfl (hC _ _ (by decide)) rfl ?_
            refine j_iload_n X (q := 52) d_C_sortEdges_51 rfl rfl ?_
            refine j_iald X (q := 53) d_C_sortEdges_52 rfl (by decide) rfl (by omega) (hC _ _ (by decide)) rfl (show _ = bI (A t) by (rw [hf 21 (by decide) (by decide)]; exact hA t (by omega))) ?_
            refine j_iload X (q := 55) d_C_sortEdges_53 rfl rfl ?_
            refine j_ior X (q := 56) d_C_sortEdges_55 rfl ?_
            refine j_iload X (q := 58) d_C_sortEdges_56 rfl rfl ?_
            refine j_ior X (q := 59) d_C_sortEdges_58 rfl ?_
            refine j_iast X (q := 60) d_C_sortEdges_59 rfl (by decide) rfl (by omega) (hC _ _ (by decide)) rfl ?_
            refine j_aload_n X (q := 61) d_C_sortEdges_60 rfl rfl ?_
            refine j_getR X (C := jR0) (T := jT0) (N := 5) (ci := 0) (j := 1) (q := 64) d_C_sortEdges_61 ju0 rfl rfl rfl (by decide) wl139 rfl (hC _ _ (by decide)) rfl ?_
            refine j_iload_n X (q := 65) d_C_sortEdges_64 rfl rfl ?_
            refine j_aload_n X (q := 66) d_C_sortEdges_65 rfl rfl ?_
            refine j_getR X (C := jR1) (T := jT1) (N := 3) (ci := 1) (j := 2) (q := 69) d_C_sortEdges_66 ju1 rfl rfl rfl (by decide) wl128 rfl (hC _ _ (by decide)) rfl ?_
            refine j_iload_n X (q := 70) d_C_sortEdges_69 rfl rfl ?_
            refine j_iald X (q := 71) d_C_sortEdges_70 rfl (by decide) rfl (by omega) (hC _ _ (by decide)) rfl (show _ = bI (D t) by (rw [jxs_g _ _ _ _ _ (by decide), hf 23 (by decide) (by decide)]; exact hD t (by omega))) ?_
            refine j_iast X (q := 72) d_C_sortEdges_71 rfl (by decide) rfl (by omega) (hC _ _ (by decide)) rfl ?_
            refine j_iinc X (q := 75) d_C_sortEdges_72 rfl (j_inc1 _) rfl ?_
            refine j_goto X (tgt := 2) d_C_sortEdges_75 (by decide) ?_
            refine jxW.to (L' := [some (.inr (24, 0)), some (.inr (20, 0)), some (.inl (nI k)), some (.inl (nI (t + 1))), none, none]) (by simp [jfg]) ?_
            exact ih (t + 1) _ (by omega) (by omega) (jse_step hj (by rw [bI_or, bI_or0]; refine bI_ext (fun i _ => ?_); simp [jpl, show 1 ≤ k by omega, show ¬ 3 ≤ k by omega])) (fun g' h1 h2 => by rw [jxs_g _ _ _ _ _ h2, jxs_g _ _ _ _ _ h1, hf g' h1 h2])
          · have _b27 := True.intro
            refine j_aload_n X (q := 31) d_C_sortEdges_30 rfl rfl ?_
            refine j_getR X (C := jR1) (T := jT1) (N := 3) (ci := 1) (j := 2) (q := 34) d_C_sortEdges_31 ju1 rfl rfl rfl (by decide) wl128 rfl (hC _ _ (by decide)) rfl ?_
            refine j_iload_n X (q := 35) d_C_sortEdges_34 rfl rfl ?_
            refine j_iald X (q := 36) d_C_sortEdges_35 rfl (by decide) rfl (by omega) (hC _ _ (by decide)) rfl (show _ = bI (D t) by (rw [hf 23 (by decide) (by decide)]; exact hD t (by omega))) ?_
            refine j_goto X (tgt := 40) d_C_sortEdges_36 (by decide) ?_
            refine j_istore X (q := 42) d_C_sortEdges_40 (Nat.le_of_ble_eq_true rfl) rfl ?_
            refine j_aload_n X (q := 43) d_C_sortEdges_42 rfl rfl ?_
            refine j_getR X (C := jR0) (T := jT0) (N := 5) (ci := 0) (j := 0) (q := 46) d_C_sortEdges_43 ju0 rfl rfl rfl (by decide) wl138 rfl (hC _ _ (by decide)) rfl ?_
            refine j_iload_n X (q := 47) d_C_sortEdges_46 rfl rfl ?_
            refine j_aload_n X (q := 48) d_C_sortEdges_47 rfl rfl ?_
            refine j_getR X (C := jR1) (T := jT1) (N := 3) (ci := 1) (j := 0) (q := 51) d_C_sortEdges_48 ju1 rfl rfl rfl (by decide) wl122 rfl (hC _ _ (by decide)) rfl ?_
            refine j_iload_n X (q := 52) d_C_sortEdges_51 rfl rfl ?_
            refine j_iald X (q := 53) d_C_sortEdges_52 rfl (by decide) rfl (by omega) (hC _ _ (by decide)) rfl (show _ = bI (A t) by (rw [hf 21 (by decide) (by decide)]; exact hA t (by omega))) ?_
            refine j_iload X (q := 55) d_C_sortEdges_53 rfl rfl ?_
            refine j_ior X (q := 56) d_C_sortEdges_55 rfl ?_
            refine j_iload X (q := 58) d_C_sortEdges_56 rfl rfl ?_
            refine j_ior X (q := 59) d_C_sortEdges_58 rfl ?_
            refine j_iast X (q := 60) d_C_sortEdges_59 rfl (by decide) rfl (by omega) (hC _ _ (by decide)) rfl ?_
            refine j_aload_n X (q := 61) d_C_sortEdges_60 rfl rfl ?_
            refine j_getR X (C := jR0) (T := jT0) (N := 5) (ci := 0) (j := 1) (q := 64) d_C_sortEdges_61 ju0 rfl rfl rfl (by decide) wl139 rfl (hC _ _ (by decide)) rfl ?_
            refine j_iload_n X (q := 65) d_C_sortEdges_64 rfl rfl ?_
            refine j_aload_n X (q := 66) d_C_sortEdges_65 rfl rfl ?_
            refine j_getR X (C := jR1) (T := jT1) (N := 3) (ci := 1) (j := 2) (q := 69) d_C_sortEdges_66 ju1 rfl rfl rfl (by decide) wl128 rfl (hC _ _ (by decide)) rfl ?_
            refine j_iload_n X (q := 70) d_C_sortEdges_69 rfl rfl ?_
            refine j_iald X (q := 71) d_C_sortEdges_70 rfl (by decide) rfl (by omega) (hC _ _ (by decide)) rfl (show _ = bI (D t) by (rw [jxs_g _ _ _ _ _ (by decide), hf 23 (by decide) (by decide)]; exact hD t (by omega))) ?_
            refine j_iast X (q := 72) d_C_sortEdges_71 rfl (by decide) rfl (by omega) (hC _ _ (by decide)) rfl ?_
            refine j_iinc X (q := 75) d_C_sortEdges_72 rfl (j_inc1 _) rfl ?_
            refine j_goto X (tgt := 2) d_C_sortEdges_75 (by decide) ?_
            refine jxW.to (L' := [some (.inr (24, 0)), some (.inr (20, 0)), some (.inl (nI k)), some (.inl (nI (t + 1))), none, none]) (by simp [jfg]) ?_
            exact ih (t + 1) _ (by omega) (by omega) (jse_step hj (by rw [bI_or, bI_or]; refine bI_ext (fun i _ => ?_); simp [jpl, show 1 ≤ k by omega, show 3 ≤ k by omega])) (fun g' h1 h2 => by rw [jxs_g _ _ _ _ _ h2, jxs_g _ _ _ _ _ h1, hf g' h1 h2])
  refine j_iconst X (v := (nI 0)) (q := 1) d_C_sortEdges_0 (by decide +kernel) rfl ?_
  refine j_istore_n X (j := 3) (q := 2) d_C_sortEdges_1 rfl (Nat.le_of_ble_eq_true rfl) rfl ?_
  refine jxW.to (L' := [some (.inr (24, 0)), some (.inr (20, 0)), some (.inl (nI k)), some (.inl (nI 0)), none, none]) (by simp [jfg]) ?_
  exact K 9 0 σ (by omega) (by omega) (fun a ha => by omega) (fun _ _ _ => rfl)
set_option maxRecDepth 100000 in
set_option maxHeartbeats 4000000 in
theorem c_C_measure {l : Launch} {Θ : jxT} (hI : jxI Θ) (hC : ∀ g r, r < jrwJ g → Θ.2.2.2 g r) {P M : Nat → Nat → Bool} {σ : jxM} (hP : jGb 25 P σ) (hM : jGb 26 M σ) {t : Nat} (ht : t < 8) : jxMet l y_C_measure b_C_measure 3 none (jrm 3) Θ [.inr (24, 0), .inl (nI t)] σ (fun r σ' => r = none ∧ (∀ i, i ≤ 8 → σ' 27 0 i = bI (jpd P t i) ∧ σ' 28 0 i = bI (jow P M t i)) ∧ ∀ g', g' ≠ 27 → g' ≠ 28 → σ' g' = σ g') := by
  refine jxMet.of (own := "HistoryJudge$CycleSearch") hI (by decide) rfl (Nat.le_of_ble_eq_true rfl) (fun Γ X => ?_)
  show jxW Γ Θ (fun r σ' => r = none ∧ (∀ i, i ≤ 8 → σ' 27 0 i = bI (jpd P t i) ∧ σ' 28 0 i = bI (jow P M t i)) ∧ ∀ g', g' ≠ 27 → g' ≠ 28 → σ' g' = σ g') 0 [some (.inr (24, 0)), some (.inl (nI t)), none] [] σ
  have K : ∀ (N : Nat) (j : Nat) (σ1 : jxM), 8 - j < N → j ≤ 8 → (∀ i, i ≤ j → σ1 27 0 i = bI (jpd P t i) ∧ σ1 28 0 i = bI (jow P M t i)) → (∀ g', g' ≠ 27 → g' ≠ 28 → σ1 g' = σ g') → jxW Γ Θ (fun r σ' => r = none ∧ (∀ i, i ≤ 8 → σ' 27 0 i = bI (jpd P t i) ∧ σ' 28 0 i = bI (jow P M t i)) ∧ ∀ g', g' ≠ 27 → g' ≠ 28 → σ' g' = σ g') 19 [some (.inr (24, 0)), some (.inl (nI t)), some (.inl (nI (j + 1)))] [] σ1 := by
    intro N
    induction N with
    | zero => intro j σ1 hn; exact absurd hn (Nat.not_lt_zero _)
    | succ N ih =>
      intro j σ1 hn hj hv hf
      refine j_iload_n X (q := 20) d_C_measure_19 rfl rfl ?_
      refine j_bipush X (v := (nI 8)) (q := 22) d_C_measure_20 (by decide +kernel) rfl ?_
      refine j_ncmp_gt X (tgt := 89) (q := 25) d_C_measure_22 (by decide) rfl (by omega) (by omega) (fun h22 => ?_) (fun h22 => ?_)
      · have _b22 := True.intro
        refine j_vret X d_C_measure_89 ?_
        have e : j = 8 := by omega
        subst e
        exact ⟨rfl, hv, hf⟩
      · have _b22 := True.intro
        refine j_aload_n X (q := 26) d_C_measure_25 rfl rfl ?_
        refine j_getR X (C := jR0) (T := jT0) (N := 5) (ci := 0) (j := 2) (q := 29) d_C_measure_26 ju0 rfl rfl rfl (by decide) wl140 rfl (hC _ _ (by decide)) rfl ?_
        refine j_iload_n X (q := 30) d_C_measure_29 rfl rfl ?_
        refine j_aload_n X (q := 31) d_C_measure_30 rfl rfl ?_
        refine j_getR X (C := jR0) (T := jT0) (N := 5) (ci := 0) (j := 0) (q := 34) d_C_measure_31 ju0 rfl rfl rfl (by decide) wl138 rfl (hC _ _ (by decide)) rfl ?_
        refine j_aload_n X (q := 35) d_C_measure_34 rfl rfl ?_
        refine j_getR X (C := jR0) (T := jT0) (N := 5) (ci := 0) (j := 2) (q := 38) d_C_measure_35 ju0 rfl rfl rfl (by decide) wl140 rfl (hC _ _ (by decide)) rfl ?_
        refine j_iload_n X (q := 39) d_C_measure_38 rfl rfl ?_
        refine j_iconst X (v := (nI 1)) (q := 40) d_C_measure_39 (by decide +kernel) rfl ?_
        refine j_isub X (q := 41) d_C_measure_40 rfl ?_
        refine j_iald X (j := j) (q := 42) d_C_measure_41 rfl (by decide) (nI_pred j) (by omega) (hC _ _ (by decide)) rfl (hv j (Nat.le_refl _)).1 ?_
        refine j_callS X (n := 2) d_C_measure_42 (c_C_leadingInto hI (g := 25) rfl (hC _ _ (by decide)) (jGb_keep hP (hf 25 (by decide) (by decide))) (jpd P t j)) wl241 wl242 wl40 wl243 (by decide +kernel) ⟨rfl, rfl⟩ (by decide) rfl rfl (Nat.le_of_ble_eq_true rfl) rfl (q := 45) rfl (fun r42 τ42 e42 => ?_)
        obtain ⟨rfl, rfl⟩ := e42
        refine j_iast X (q := 46) d_C_measure_45 rfl (by decide) rfl (by omega) (hC _ _ (by decide)) rfl ?_
        refine j_aload_n X (q := 47) d_C_measure_46 rfl rfl ?_
        refine j_getR X (C := jR0) (T := jT0) (N := 5) (ci := 0) (j := 3) (q := 50) d_C_measure_47 ju0 rfl rfl rfl (by decide) wl141 rfl (hC _ _ (by decide)) rfl ?_
        refine j_iload_n X (q := 51) d_C_measure_50 rfl rfl ?_
        refine j_aload_n X (q := 52) d_C_measure_51 rfl rfl ?_
        refine j_getR X (C := jR0) (T := jT0) (N := 5) (ci := 0) (j := 0) (q := 55) d_C_measure_52 ju0 rfl rfl rfl (by decide) wl138 rfl (hC _ _ (by decide)) rfl ?_
        refine j_aload_n X (q := 56) d_C_measure_55 rfl rfl ?_
        refine j_getR X (C := jR0) (T := jT0) (N := 5) (ci := 0) (j := 3) (q := 59) d_C_measure_56 ju0 rfl rfl rfl (by decide) wl141 rfl (hC _ _ (by decide)) rfl ?_
        refine j_iload_n X (q := 60) d_C_measure_59 rfl rfl ?_
        refine j_iconst X (v := (nI 1)) (q := 61) d_C_measure_60 (by decide +kernel) rfl ?_
        refine j_isub X (q := 62) d_C_measure_61 rfl ?_
        refine j_iald X (j := j) (q := 63) d_C_measure_62 rfl (by decide) (nI_pred j) (by omega) (hC _ _ (by decide)) rfl (show _ = bI (jow P M t j) by (rw [jxs_g _ _ _ _ _ (by decide)]; exact (hv j (Nat.le_refl _)).2)) ?_
        refine j_callS X (n := 2) d_C_measure_63 (c_C_leadingInto hI (g := 25) rfl (hC _ _ (by decide)) (jGb_keep (jGb_keep hP (hf 25 (by decide) (by decide))) (jxs_g _ _ _ _ _ (by decide))) (jow P M t j)) wl241 wl242 wl40 wl243 (by decide +kernel) ⟨rfl, rfl⟩ (by decide) rfl rfl (Nat.le_of_ble_eq_true rfl) rfl (q := 66) rfl (fun r63 τ63 e63 => ?_)
        obtain ⟨rfl, rfl⟩ := e63
        refine j_aload_n X (q := 67) d_C_measure_66 rfl rfl ?_
        refine j_getR X (C := jR0) (T := jT0) (N := 5) (ci := 0) (j := 1) (q := 70) d_C_measure_67 ju0 rfl rfl rfl (by decide) wl139 rfl (hC _ _ (by decide)) rfl ?_
        refine j_aload_n X (q := 71) d_C_measure_70 rfl rfl ?_
        refine j_getR X (C := jR0) (T := jT0) (N := 5) (ci := 0) (j := 2) (q := 74) d_C_measure_71 ju0 rfl rfl rfl (by decide) wl140 rfl (hC _ _ (by decide)) rfl ?_
        refine j_iload_n X (q := 75) d_C_measure_74 rfl rfl ?_
        refine j_iconst X (v := (nI 1)) (q := 76) d_C_measure_75 (by decide +kernel) rfl ?_
        refine j_isub X (q := 77) d_C_measure_76 rfl ?_
        refine j_iald X (j := j) (q := 78) d_C_measure_77 rfl (by decide) (nI_pred j) (by omega) (hC _ _ (by decide)) rfl (show _ = bI (jpd P t j) by (rw [jxs_at, if_neg (by omega)]; exact (hv j (Nat.le_refl _)).1)) ?_
        refine j_callS X (n := 2) d_C_measure_78 (c_C_leadingInto hI (g := 26) rfl (hC _ _ (by decide)) (jGb_keep (jGb_keep hM (hf 26 (by decide) (by decide))) (jxs_g _ _ _ _ _ (by decide))) (jpd P t j)) wl241 wl242 wl40 wl243 (by decide +kernel) ⟨rfl, rfl⟩ (by decide) rfl rfl (Nat.le_of_ble_eq_true rfl) rfl (q := 81) rfl (fun r78 τ78 e78 => ?_)
        obtain ⟨rfl, rfl⟩ := e78
        refine j_ior X (q := 82) d_C_measure_81 rfl ?_
        refine j_iast X (q := 83) d_C_measure_82 rfl (by decide) rfl (by omega) (hC _ _ (by decide)) rfl ?_
        refine j_iinc X (q := 86) d_C_measure_83 rfl (j_inc1 _) rfl ?_
        refine j_goto X (tgt := 19) d_C_measure_86 (by decide) ?_
        refine jxW.to (L' := [some (.inr (24, 0)), some (.inl (nI t)), some (.inl (nI (j + 1 + 1)))]) (by simp [jfg]) ?_
        refine ih (j + 1) _ (by omega) (by omega) (fun i hi => ?_) (fun g' h1 h2 => by rw [jxs_g _ _ _ _ _ h2, jxs_g _ _ _ _ _ h1, hf g' h1 h2])
        by_cases e : i = j + 1
        · subst e
          refine ⟨?_, ?_⟩
          · simp [jxs_at]; exact bI_ext (fun i _ => rfl)
          · simp [jxs_at]; rw [bI_or]; exact bI_ext (fun i _ => rfl)
        · have := hv i (by omega)
          refine ⟨?_, ?_⟩
          · simp [jxs_at, e]; exact this.1
          · simp [jxs_at, e]; exact this.2
  refine j_aload_n X (q := 1) d_C_measure_0 rfl rfl ?_
  refine j_getR X (C := jR0) (T := jT0) (N := 5) (ci := 0) (j := 2) (q := 4) d_C_measure_1 ju0 rfl rfl rfl (by decide) wl140 rfl (hC _ _ (by decide)) rfl ?_
  refine j_iconst X (v := (nI 0)) (q := 5) d_C_measure_4 (by decide +kernel) rfl ?_
  refine j_iload_n X (q := 6) d_C_measure_5 rfl rfl ?_
  refine j_callSN X (n := 1) d_C_measure_6 (c_J_only hI ht _) wl208 nl4 wl36 wl207 (by decide +kernel) ⟨rfl, rfl⟩ (by decide) rfl rfl (Nat.le_of_ble_eq_true rfl) rfl (q := 9) rfl (fun r6 τ6 e6 => ?_)
  obtain ⟨rfl, rfl⟩ := e6
  refine j_iast X (q := 10) d_C_measure_9 rfl (by decide) rfl (by omega) (hC _ _ (by decide)) rfl ?_
  refine j_aload_n X (q := 11) d_C_measure_10 rfl rfl ?_
  refine j_getR X (C := jR0) (T := jT0) (N := 5) (ci := 0) (j := 3) (q := 14) d_C_measure_11 ju0 rfl rfl rfl (by decide) wl141 rfl (hC _ _ (by decide)) rfl ?_
  refine j_iconst X (v := (nI 0)) (q := 15) d_C_measure_14 (by decide +kernel) rfl ?_
  refine j_iconst X (v := (nI 0)) (q := 16) d_C_measure_15 (by decide +kernel) rfl ?_
  refine j_iast X (q := 17) d_C_measure_16 rfl (by decide) rfl (by omega) (hC _ _ (by decide)) rfl ?_
  refine j_iconst X (v := (nI 1)) (q := 18) d_C_measure_17 (by decide +kernel) rfl ?_
  refine j_istore_n X (j := 2) (q := 19) d_C_measure_18 rfl (Nat.le_of_ble_eq_true rfl) rfl ?_
  refine jxW.to (L' := [some (.inr (24, 0)), some (.inl (nI t)), some (.inl (nI (0 + 1)))]) (by simp [jfg]) ?_
  refine K 9 0 _ (by omega) (by omega) (fun i hi => ?_) (fun g' h1 h2 => by rw [jxs_g _ _ _ _ _ h2, jxs_g _ _ _ _ _ h1])
  have e : i = 0 := by omega
  subst e
  refine ⟨?_, ?_⟩
  · simp [jxs_at]; exact bI_ext (fun i _ => rfl)
  · simp [jxs_at]; rw [bI_n0]; exact bI_ext (fun i _ => rfl)
end
section
/-! The search for cycles: the row is laid; the answer. -/
set_option maxRecDepth 100000 in
set_option maxHeartbeats 4000000 in
theorem c_C_trace {l : Launch} {Θ : jxT} (hI : jxI Θ) (hC : ∀ g r, r < jrwJ g → Θ.2.2.2 g r) {P M : Nat → Nat → Bool} {nd : Bool} {f n : Nat} {σ : jxM} (hP : jGb 25 P σ) (hM : jGb 26 M σ) (hv : ∀ i, i ≤ 8 → σ 27 0 i = bI (jpd P f i) ∧ σ 28 0 i = bI (jow P M f i)) (hf8 : f < 8) (hn2 : 2 ≤ n) (hn8 : n ≤ 8) (hwk : jwk nd P M f n f = true) : jxMet l y_C_trace b_C_trace 13 none (jrm 4) Θ [.inr (24, 0), .inl (nI f), .inl (nI n), .inl (jB nd)] σ (fun r' σ' => r' = none ∧ (∃ (row : Nat → Nat) (mo mp : Bool), (∀ i, i < n → σ' 29 0 i = nI (row i)) ∧ row 0 = f ∧ jti nd P M n (n - 1) row mo mp) ∧ ∀ g', g' ≠ 29 → σ' g' = σ g') := by
  refine jxMet.of (own := "HistoryJudge$CycleSearch") hI (by decide) rfl (Nat.le_of_ble_eq_true rfl) (fun Γ X => ?_)
  show jxW Γ Θ (fun r' σ' => r' = none ∧ (∃ (row : Nat → Nat) (mo mp : Bool), (∀ i, i < n → σ' 29 0 i = nI (row i)) ∧ row 0 = f ∧ jti nd P M n (n - 1) row mo mp) ∧ ∀ g', g' ≠ 29 → σ' g' = σ g') 0 [some (.inr (24, 0)), some (.inl (nI f)), some (.inl (nI n)), some (.inl (jB nd)), none, none, none, none, none, none, none, none, none] [] σ
  have K : ∀ (N : Nat) (j : Nat) (σ1 : jxM) (row : Nat → Nat) (mo mp : Bool), 8 - j < N → jti nd P M n j row mo mp → row 0 = f → (∀ i, i ≤ j → σ1 29 0 i = nI (row i)) → (∀ g', g' ≠ 29 → σ1 g' = σ g') → jxW Γ Θ (fun r' σ' => r' = none ∧ (∃ (row : Nat → Nat) (mo mp : Bool), (∀ i, i < n → σ' 29 0 i = nI (row i)) ∧ row 0 = f ∧ jti nd P M n (n - 1) row mo mp) ∧ ∀ g', g' ≠ 29 → σ' g' = σ g') 24 [some (.inr (24, 0)), some (.inl (nI f)), some (.inl (nI n)), some (.inl (jB nd)), some (.inl (jB (mo))), some (.inl (jB (mp))), some (.inl (nI (j + 1))), none, none, none, none, none, none] [] σ1 := by
    intro N
    induction N with
    | zero => intro j σ1 row mo mp hn; exact absurd hn (Nat.not_lt_zero _)
    | succ N ih =>
      intro j σ1 row mo mp hn hi1 hr0 hr1 hfr
      have hjn := hi1.1
      refine j_iload X (q := 26) d_C_trace_24 rfl rfl ?_
      refine j_iload_n X (q := 27) d_C_trace_26 rfl rfl ?_
      refine j_ncmp_ge X (tgt := 174) (q := 30) d_C_trace_27 (by decide) rfl (by omega) (by omega) (fun h27 => ?_) (fun h27 => ?_)
      · have _b27 := True.intro
        refine j_vret X d_C_trace_174 ?_
        refine ⟨rfl, ⟨row, mo, mp, fun i hi => hr1 i (by omega), hr0, ?_⟩, hfr⟩
        have e : n - 1 = j := by have := hi1.1; omega
        rw [e]; exact hi1
      · have _b27 := True.intro
        have J123 : j + 1 < n → jxW Γ Θ (fun r' σ' => r' = none ∧ (∃ (row : Nat → Nat) (mo mp : Bool), (∀ i, i < n → σ' 29 0 i = nI (row i)) ∧ row 0 = f ∧ jti nd P M n (n - 1) row mo mp) ∧ ∀ g', g' ≠ 29 → σ' g' = σ g') 123 [some (.inr (24, 0)), some (.inl (nI f)), some (.inl (nI n)), some (.inl (jB nd)), some (.inl (jB mo)), some (.inl (jB mp)), some (.inl (nI (j + 1))), some (.inl (nI (row j))), some (.inl (nI n - nI (j + 1))), some (.inl (bI (jso P M f (n - (j + 1)) (row j) mo))), some (.inl (bI (jnp P M f (n - (j + 1)) (row j) mo))), none, none] [.inl (bI (jsq P f (n - (j + 1)) (row j) mp))] σ1 := by
          intro hlt
          refine j_istore X (q := 125) d_C_trace_123 (Nat.le_of_ble_eq_true rfl) rfl ?_
          refine j_iload X (q := 127) d_C_trace_125 rfl rfl ?_
          refine j_iload X (q := 129) d_C_trace_127 rfl rfl ?_
          refine j_ior X (q := 130) d_C_trace_129 rfl ?_
          refine j_iload X (q := 132) d_C_trace_130 rfl rfl ?_
          refine j_ior X (q := 133) d_C_trace_132 rfl ?_
          refine jxW.cast rfl (show _ = [.inl (bI (jal P M f (n - (j + 1)) (row j) mo mp))] by rw [bI_or, bI_or]; rfl) rfl ?_
          refine j_callSN X (n := 1) d_C_trace_133 (c_J_least hI (jal P M f (n - (j + 1)) (row j) mo mp) _) wl251 nl6 wl36 wl250 (by decide +kernel) ⟨rfl, rfl⟩ (by decide) rfl rfl (Nat.le_of_ble_eq_true rfl) rfl (q := 136) rfl (fun r133 τ133 e133 => ?_)
          obtain ⟨x, hx8, rfl, rfl, hxs⟩ := e133
          have hjt : jal P M (row 0) (n - (j + 1)) (row j) mo mp = jal P M f (n - (j + 1)) (row j) mo mp := by rw [hr0]
          have hxs := hxs (by rw [← hjt]; exact jti_some hi1 (by omega))
          refine j_istore X (q := 138) d_C_trace_136 (Nat.le_of_ble_eq_true rfl) rfl ?_
          refine j_iload X (q := 140) d_C_trace_138 rfl rfl ?_
          refine j_iload X (q := 142) d_C_trace_140 rfl rfl ?_
          refine j_callSN X (n := 2) d_C_trace_142 (c_J_has hI (jso P M f (n - (j + 1)) (row j) mo) hx8 _) wl225 nl5 wl36 wl224 (by decide +kernel) ⟨rfl, rfl⟩ (by decide) rfl rfl (Nat.le_of_ble_eq_true rfl) rfl (q := 145) rfl (fun r142 τ142 e142 => ?_)
          obtain ⟨rfl, rfl⟩ := e142
          refine j_istore X (q := 147) d_C_trace_145 (Nat.le_of_ble_eq_true rfl) rfl ?_
          refine j_iload X (q := 149) d_C_trace_147 rfl rfl ?_
          refine j_iload X (q := 151) d_C_trace_149 rfl rfl ?_
          refine j_ior X (q := 152) d_C_trace_151 rfl ?_
          refine jxW.cast rfl (show _ = [.inl (bI (fun u => jnp P M f (n - (j + 1)) (row j) mo u || jsq P f (n - (j + 1)) (row j) mp u))] by rw [bI_or]; rfl) rfl ?_
          refine j_iload X (q := 154) d_C_trace_152 rfl rfl ?_
          refine j_callSN X (n := 2) d_C_trace_154 (c_J_has hI (fun u => jnp P M f (n - (j + 1)) (row j) mo u || jsq P f (n - (j + 1)) (row j) mp u) hx8 _) wl225 nl5 wl36 wl224 (by decide +kernel) ⟨rfl, rfl⟩ (by decide) rfl rfl (Nat.le_of_ble_eq_true rfl) rfl (q := 157) rfl (fun r154 τ154 e154 => ?_)
          obtain ⟨rfl, rfl⟩ := e154
          refine j_istore X (q := 159) d_C_trace_157 (Nat.le_of_ble_eq_true rfl) rfl ?_
          refine j_aload_n X (q := 160) d_C_trace_159 rfl rfl ?_
          refine j_getR X (C := jR0) (T := jT0) (N := 5) (ci := 0) (j := 4) (q := 163) d_C_trace_160 ju0 rfl rfl rfl (by decide) wl142 rfl (hC _ _ (by decide)) rfl ?_
          refine j_iload X (q := 165) d_C_trace_163 rfl rfl ?_
          refine j_iload X (q := 167) d_C_trace_165 rfl rfl ?_
          refine j_iast X (q := 168) d_C_trace_167 rfl (by decide) rfl (by omega) (hC _ _ (by decide)) rfl ?_
          refine j_iinc X (q := 171) d_C_trace_168 rfl (j_inc1 _) rfl ?_
          refine j_goto X (tgt := 24) d_C_trace_171 (by decide) ?_
          refine jxW.to (L' := [some (.inr (24, 0)), some (.inl (nI f)), some (.inl (nI n)), some (.inl (jB nd)), some (.inl (jB (jso P M f (n - (j + 1)) (row j) mo x))), some (.inl (jB ((jnp P M f (n - (j + 1)) (row j) mo x || jsq P f (n - (j + 1)) (row j) mp x)))), some (.inl (nI (j + 1 + 1))), none, none, none, none, none, none]) (by simp [jfg]) ?_
          have hst := jti_step (row' := fun k => if k = j + 1 then x else row k) hi1 (by omega) hx8 (by rw [hjt]; exact hxs.1) (fun u hu => by rw [hjt]; exact hxs.2 u hu) (fun k hk => if_neg (by omega)) (if_pos rfl)
          rw [hr0] at hst
          refine ih (j + 1) _ (fun k => if k = j + 1 then x else row k) _ _ (by omega) hst (by show (if 0 = j + 1 then x else row 0) = f; rw [if_neg (by omega)]; exact hr0) (fun i hi => ?_) (fun g' h1 => by rw [jxs_g _ _ _ _ _ h1, hfr g' h1])
          show _ = nI (if i = j + 1 then x else row i)
          by_cases e : i = j + 1
          · subst e; simp [jxs_at]
          · simp [jxs_at, e]; exact hr1 i (by omega)
        have J97 : j + 1 < n → jxW Γ Θ (fun r' σ' => r' = none ∧ (∃ (row : Nat → Nat) (mo mp : Bool), (∀ i, i < n → σ' 29 0 i = nI (row i)) ∧ row 0 = f ∧ jti nd P M n (n - 1) row mo mp) ∧ ∀ g', g' ≠ 29 → σ' g' = σ g') 97 [some (.inr (24, 0)), some (.inl (nI f)), some (.inl (nI n)), some (.inl (jB nd)), some (.inl (jB mo)), some (.inl (jB mp)), some (.inl (nI (j + 1))), some (.inl (nI (row j))), some (.inl (nI n - nI (j + 1))), some (.inl (bI (jso P M f (n - (j + 1)) (row j) mo))), none, none, none] [.inl (bI (jnp P M f (n - (j + 1)) (row j) mo))] σ1 := by
          intro hlt
          refine j_istore X (q := 99) d_C_trace_97 (Nat.le_of_ble_eq_true rfl) rfl ?_
          refine j_iload X (q := 101) d_C_trace_99 rfl rfl ?_
          refine j_bif_eq X (tgt := 122) (q := 104) d_C_trace_101 (by decide) rfl (fun h101 => ?_) (fun h101 => ?_)
          · have _b101 := True.intro
            refine j_iconst X (v := (nI 0)) (q := 123) d_C_trace_122 (by decide +kernel) rfl ?_
            refine jxW.cast rfl (show _ = [.inl (bI (jsq P f (n - (j + 1)) (row j) mp))] by (subst h101; rw [bI_n0]; congr 2)) rfl ?_
            exact J123 (by omega)
          · have _b101 := True.intro
            refine j_aload_n X (q := 105) d_C_trace_104 rfl rfl ?_
            refine j_getR X (C := jR0) (T := jT0) (N := 5) (ci := 0) (j := 0) (q := 108) d_C_trace_105 ju0 rfl rfl rfl (by decide) wl138 rfl (hC _ _ (by decide)) rfl ?_
            refine j_iload X (q := 110) d_C_trace_108 rfl rfl ?_
            refine j_iald X (q := 111) d_C_trace_110 rfl (by decide) rfl (hi1.2.1 j (by omega)) (hC _ _ (by decide)) rfl (jGb_keep hP (hfr 25 (by decide)) _ (hi1.2.1 j (by omega))) ?_
            refine j_aload_n X (q := 112) d_C_trace_111 rfl rfl ?_
            refine j_getR X (C := jR0) (T := jT0) (N := 5) (ci := 0) (j := 2) (q := 115) d_C_trace_112 ju0 rfl rfl rfl (by decide) wl140 rfl (hC _ _ (by decide)) rfl ?_
            refine j_iload X (q := 117) d_C_trace_115 rfl rfl ?_
            refine j_iald X (j := n - (j + 1)) (q := 118) d_C_trace_117 rfl (by decide) (pk_sub (by omega)) (by omega) (hC _ _ (by decide)) rfl (show _ = bI (jpd P f (n - (j + 1))) by (rw [hfr 27 (by decide)]; exact (hv _ (by omega)).1)) ?_
            refine j_iand X (q := 119) d_C_trace_118 rfl ?_
            refine j_goto X (tgt := 123) d_C_trace_119 (by decide) ?_
            refine jxW.cast rfl (show _ = [.inl (bI (jsq P f (n - (j + 1)) (row j) mp))] by (subst h101; rw [bI_and]; congr 2)) rfl ?_
            exact J123 (by omega)
        have J71 : j + 1 < n → jxW Γ Θ (fun r' σ' => r' = none ∧ (∃ (row : Nat → Nat) (mo mp : Bool), (∀ i, i < n → σ' 29 0 i = nI (row i)) ∧ row 0 = f ∧ jti nd P M n (n - 1) row mo mp) ∧ ∀ g', g' ≠ 29 → σ' g' = σ g') 71 [some (.inr (24, 0)), some (.inl (nI f)), some (.inl (nI n)), some (.inl (jB nd)), some (.inl (jB mo)), some (.inl (jB mp)), some (.inl (nI (j + 1))), some (.inl (nI (row j))), some (.inl (nI n - nI (j + 1))), none, none, none, none] [.inl (bI (jso P M f (n - (j + 1)) (row j) mo))] σ1 := by
          intro hlt
          refine j_istore X (q := 73) d_C_trace_71 (Nat.le_of_ble_eq_true rfl) rfl ?_
          refine j_iload X (q := 75) d_C_trace_73 rfl rfl ?_
          refine j_bif_eq X (tgt := 96) (q := 78) d_C_trace_75 (by decide) rfl (fun h75 => ?_) (fun h75 => ?_)
          · have _b75 := True.intro
            refine j_iconst X (v := (nI 0)) (q := 97) d_C_trace_96 (by decide +kernel) rfl ?_
            refine jxW.cast rfl (show _ = [.inl (bI (jnp P M f (n - (j + 1)) (row j) mo))] by (subst h75; rw [bI_n0]; congr 2)) rfl ?_
            exact J97 (by omega)
          · have _b75 := True.intro
            refine j_aload_n X (q := 79) d_C_trace_78 rfl rfl ?_
            refine j_getR X (C := jR0) (T := jT0) (N := 5) (ci := 0) (j := 1) (q := 82) d_C_trace_79 ju0 rfl rfl rfl (by decide) wl139 rfl (hC _ _ (by decide)) rfl ?_
            refine j_iload X (q := 84) d_C_trace_82 rfl rfl ?_
            refine j_iald X (q := 85) d_C_trace_84 rfl (by decide) rfl (hi1.2.1 j (by omega)) (hC _ _ (by decide)) rfl (jGb_keep hM (hfr 26 (by decide)) _ (hi1.2.1 j (by omega))) ?_
            refine j_aload_n X (q := 86) d_C_trace_85 rfl rfl ?_
            refine j_getR X (C := jR0) (T := jT0) (N := 5) (ci := 0) (j := 2) (q := 89) d_C_trace_86 ju0 rfl rfl rfl (by decide) wl140 rfl (hC _ _ (by decide)) rfl ?_
            refine j_iload X (q := 91) d_C_trace_89 rfl rfl ?_
            refine j_iald X (j := n - (j + 1)) (q := 92) d_C_trace_91 rfl (by decide) (pk_sub (by omega)) (by omega) (hC _ _ (by decide)) rfl (show _ = bI (jpd P f (n - (j + 1))) by (rw [hfr 27 (by decide)]; exact (hv _ (by omega)).1)) ?_
            refine j_iand X (q := 93) d_C_trace_92 rfl ?_
            refine j_goto X (tgt := 97) d_C_trace_93 (by decide) ?_
            refine jxW.cast rfl (show _ = [.inl (bI (jnp P M f (n - (j + 1)) (row j) mo))] by (subst h75; rw [bI_and]; congr 2)) rfl ?_
            exact J97 (by omega)
        refine j_aload_n X (q := 31) d_C_trace_30 rfl rfl ?_
        refine j_getR X (C := jR0) (T := jT0) (N := 5) (ci := 0) (j := 4) (q := 34) d_C_trace_31 ju0 rfl rfl rfl (by decide) wl142 rfl (hC _ _ (by decide)) rfl ?_
        refine j_iload X (q := 36) d_C_trace_34 rfl rfl ?_
        refine j_iconst X (v := (nI 1)) (q := 37) d_C_trace_36 (by decide +kernel) rfl ?_
        refine j_isub X (q := 38) d_C_trace_37 rfl ?_
        refine j_iald X (j := j) (q := 39) d_C_trace_38 rfl (by decide) (nI_pred j) (by omega) (hC _ _ (by decide)) rfl (hr1 j (Nat.le_refl _)) ?_
        refine j_istore X (q := 41) d_C_trace_39 (Nat.le_of_ble_eq_true rfl) rfl ?_
        refine j_iload_n X (q := 42) d_C_trace_41 rfl rfl ?_
        refine j_iload X (q := 44) d_C_trace_42 rfl rfl ?_
        refine j_isub X (q := 45) d_C_trace_44 rfl ?_
        refine j_istore X (q := 47) d_C_trace_45 (Nat.le_of_ble_eq_true rfl) rfl ?_
        refine j_iload X (q := 49) d_C_trace_47 rfl rfl ?_
        refine j_bif_eq X (tgt := 70) (q := 52) d_C_trace_49 (by decide) rfl (fun h49 => ?_) (fun h49 => ?_)
        · have _b49 := True.intro
          refine j_iconst X (v := (nI 0)) (q := 71) d_C_trace_70 (by decide +kernel) rfl ?_
          refine jxW.cast rfl (show _ = [.inl (bI (jso P M f (n - (j + 1)) (row j) mo))] by (subst h49; rw [bI_n0]; congr 2)) rfl ?_
          exact J71 (by omega)
        · have _b49 := True.intro
          refine j_aload_n X (q := 53) d_C_trace_52 rfl rfl ?_
          refine j_getR X (C := jR0) (T := jT0) (N := 5) (ci := 0) (j := 0) (q := 56) d_C_trace_53 ju0 rfl rfl rfl (by decide) wl138 rfl (hC _ _ (by decide)) rfl ?_
          refine j_iload X (q := 58) d_C_trace_56 rfl rfl ?_
          refine j_iald X (q := 59) d_C_trace_58 rfl (by decide) rfl (hi1.2.1 j (by omega)) (hC _ _ (by decide)) rfl (jGb_keep hP (hfr 25 (by decide)) _ (hi1.2.1 j (by omega))) ?_
          refine j_aload_n X (q := 60) d_C_trace_59 rfl rfl ?_
          refine j_getR X (C := jR0) (T := jT0) (N := 5) (ci := 0) (j := 3) (q := 63) d_C_trace_60 ju0 rfl rfl rfl (by decide) wl141 rfl (hC _ _ (by decide)) rfl ?_
          refine j_iload X (q := 65) d_C_trace_63 rfl rfl ?_
          refine j_iald X (j := n - (j + 1)) (q := 66) d_C_trace_65 rfl (by decide) (pk_sub (by omega)) (by omega) (hC _ _ (by decide)) rfl (show _ = bI (jow P M f (n - (j + 1))) by (rw [hfr 28 (by decide)]; exact (hv _ (by omega)).2)) ?_
          refine j_iand X (q := 67) d_C_trace_66 rfl ?_
          refine j_goto X (tgt := 71) d_C_trace_67 (by decide) ?_
          refine jxW.cast rfl (show _ = [.inl (bI (jso P M f (n - (j + 1)) (row j) mo))] by (subst h49; rw [bI_and]; congr 2)) rfl ?_
          exact J71 (by omega)
  refine j_iload_n X (q := 1) d_C_trace_0 rfl rfl ?_
  refine j_istore X (q := 3) d_C_trace_1 (Nat.le_of_ble_eq_true rfl) rfl ?_
  refine j_iload_n X (q := 4) d_C_trace_3 rfl rfl ?_
  refine j_bif_ne X (tgt := 11) (q := 7) d_C_trace_4 (by decide) rfl (fun h4 => ?_) (fun h4 => ?_)
  · have _b4 := True.intro
    have em : nI 0 = jB (!nd) := by rw [h4]; rfl
    refine j_iconst X (v := (nI 0)) (q := 12) d_C_trace_11 (by decide +kernel) rfl ?_
    refine j_istore X (q := 14) d_C_trace_12 (Nat.le_of_ble_eq_true rfl) rfl ?_
    refine j_aload_n X (q := 15) d_C_trace_14 rfl rfl ?_
    refine j_getR X (C := jR0) (T := jT0) (N := 5) (ci := 0) (j := 4) (q := 18) d_C_trace_15 ju0 rfl rfl rfl (by decide) wl142 rfl (hC _ _ (by decide)) rfl ?_
    refine j_iconst X (v := (nI 0)) (q := 19) d_C_trace_18 (by decide +kernel) rfl ?_
    refine j_iload_n X (q := 20) d_C_trace_19 rfl rfl ?_
    refine j_iast X (q := 21) d_C_trace_20 rfl (by decide) rfl (by omega) (hC _ _ (by decide)) rfl ?_
    refine j_iconst X (v := (nI 1)) (q := 22) d_C_trace_21 (by decide +kernel) rfl ?_
    refine j_istore X (q := 24) d_C_trace_22 (Nat.le_of_ble_eq_true rfl) rfl ?_
    refine jxW.to (L' := [some (.inr (24, 0)), some (.inl (nI f)), some (.inl (nI n)), some (.inl (jB nd)), some (.inl (jB (nd))), some (.inl (jB (!nd))), some (.inl (nI (0 + 1))), none, none, none, none, none, none]) (by simp [jfg, em]) ?_
    exact K 9 0 _ (fun _ => f) nd (!nd) (by omega) (jti_0 (by omega) hf8 hwk rfl) rfl (fun i hi => by rw [show i = 0 by omega]; simp [jxs_at]) (fun g' h1 => jxs_g _ _ _ _ _ h1)
  · have _b4 := True.intro
    have em : nI 1 = jB (!nd) := by rw [h4]; rfl
    refine j_iconst X (v := (nI 1)) (q := 8) d_C_trace_7 (by decide +kernel) rfl ?_
    refine j_goto X (tgt := 12) d_C_trace_8 (by decide) ?_
    refine j_istore X (q := 14) d_C_trace_12 (Nat.le_of_ble_eq_true rfl) rfl ?_
    refine j_aload_n X (q := 15) d_C_trace_14 rfl rfl ?_
    refine j_getR X (C := jR0) (T := jT0) (N := 5) (ci := 0) (j := 4) (q := 18) d_C_trace_15 ju0 rfl rfl rfl (by decide) wl142 rfl (hC _ _ (by decide)) rfl ?_
    refine j_iconst X (v := (nI 0)) (q := 19) d_C_trace_18 (by decide +kernel) rfl ?_
    refine j_iload_n X (q := 20) d_C_trace_19 rfl rfl ?_
    refine j_iast X (q := 21) d_C_trace_20 rfl (by decide) rfl (by omega) (hC _ _ (by decide)) rfl ?_
    refine j_iconst X (v := (nI 1)) (q := 22) d_C_trace_21 (by decide +kernel) rfl ?_
    refine j_istore X (q := 24) d_C_trace_22 (Nat.le_of_ble_eq_true rfl) rfl ?_
    refine jxW.to (L' := [some (.inr (24, 0)), some (.inl (nI f)), some (.inl (nI n)), some (.inl (jB nd)), some (.inl (jB (nd))), some (.inl (jB (!nd))), some (.inl (nI (0 + 1))), none, none, none, none, none, none]) (by simp [jfg, em]) ?_
    exact K 9 0 _ (fun _ => f) nd (!nd) (by omega) (jti_0 (by omega) hf8 hwk rfl) rfl (fun i hi => by rw [show i = 0 by omega]; simp [jxs_at]) (fun g' h1 => jxs_g _ _ _ _ _ h1)
/-- the shortest, as a number -/
def jsf (w : Nat → Bool) : Nat := if w 2 then 2 else if w 3 then 3 else if w 4 then 4 else if w 5 then 5 else if w 6 then 6 else if w 7 then 7 else if w 8 then 8 else 0
theorem jsp_uniq {w : Nat → Bool} {s s' : Nat} (h : jsp w s) (h' : jsp w s') : s = s' := by
  rcases h with ⟨e, h⟩ | ⟨a1, a2, a3, a4⟩ <;> rcases h' with ⟨e', h'⟩ | ⟨b1, b2, b3, b4⟩
  · omega
  · rw [h s' b1 b2] at b3; cases b3
  · rw [h' s a1 a2] at a3; cases a3
  · rcases Nat.lt_trichotomy s s' with q | q | q
    · rw [b4 s a1 q] at a3; cases a3
    · exact q
    · rw [a4 s' b1 q] at b3; cases b3
theorem jsf_sp (w : Nat → Bool) : jsp w (jsf w) := by
  unfold jsf
  have key : ∀ k, 2 ≤ k → k ≤ 8 → k = 2 ∨ k = 3 ∨ k = 4 ∨ k = 5 ∨ k = 6 ∨ k = 7 ∨ k = 8 := fun k h1 h2 => by omega
  repeat' split
  · exact Or.inr ⟨by omega, by omega, by assumption, fun k h1 h2 => by omega⟩
  · rename_i h1 h2
    exact Or.inr ⟨by omega, by omega, by assumption, fun k g1 g2 => by rcases key k g1 (by omega) with rfl | rfl | rfl | rfl | rfl | rfl | rfl <;> first | omega | simpa using h1⟩
  · rename_i h1 h2 h3
    exact Or.inr ⟨by omega, by omega, by assumption, fun k g1 g2 => by rcases key k g1 (by omega) with rfl | rfl | rfl | rfl | rfl | rfl | rfl <;> first | omega | simpa using h1 | simpa using h2⟩
  · rename_i h1 h2 h3 h4
    exact Or.inr ⟨by omega, by omega, by assumption, fun k g1 g2 => by rcases key k g1 (by omega) with rfl | rfl | rfl | rfl | rfl | rfl | rfl <;> first | omega | simpa using h1 | simpa using h2 | simpa using h3⟩
  · rename_i h1 h2 h3 h4 h5
    exact Or.inr ⟨by omega, by omega, by assumption, fun k g1 g2 => by rcases key k g1 (by omega) with rfl | rfl | rfl | rfl | rfl | rfl | rfl <;> first | omega | simpa using h1 | simpa using h2 | simpa using h3 | simpa using h4⟩
  · rename_i h1 h2 h3 h4 h5 h6
    exact Or.inr ⟨by omega, by omega, by assumption, fun k g1 g2 => by rcases key k g1 (by omega) with rfl | rfl | rfl | rfl | rfl | rfl | rfl <;> first | omega | simpa using h1 | simpa using h2 | simpa using h3 | simpa using h4 | simpa using h5⟩
  · rename_i h1 h2 h3 h4 h5 h6 h7
    exact Or.inr ⟨by omega, by omega, by assumption, fun k g1 g2 => by rcases key k g1 (by omega) with rfl | rfl | rfl | rfl | rfl | rfl | rfl <;> first | omega | simpa using h1 | simpa using h2 | simpa using h3 | simpa using h4 | simpa using h5 | simpa using h6⟩
  · rename_i h1 h2 h3 h4 h5 h6 h7
    exact Or.inl ⟨rfl, fun k g1 g2 => by rcases key k g1 g2 with rfl | rfl | rfl | rfl | rfl | rfl | rfl <;> first | simpa using h1 | simpa using h2 | simpa using h3 | simpa using h4 | simpa using h5 | simpa using h6 | simpa using h7⟩
end
section
/-! The search for cycles: find. -/
set_option maxRecDepth 100000 in
set_option maxHeartbeats 4000000 in
theorem c_C_find {l : Launch} {Θ : jxT} (hI : jxI Θ) (hC : ∀ g r, r < jrwJ g → Θ.2.2.2 g r) {A B D : Nat → Nat → Bool} {σ : jxM} (hA : jGb 21 A σ) (hB : jGb 22 B σ) (hD : jGb 23 D σ) {k : Nat} (hk4 : k < 4) : jxMet l y_C_find b_C_find 8 (some FieldType.int) (jrm 5) Θ [.inr (24, 0), .inr (20, 0), .inl (nI k)] σ (fun r' σ' => (∃ len, len ≤ 8 ∧ r' = some (.inl (nI len)) ∧ (len = 0 → ∀ n r, 2 ≤ n → n ≤ 8 → ¬ jcy (decide (2 ≤ k)) (jpl k A B D) D n r) ∧ (len ≠ 0 → ∃ row : Nat → Nat, (∀ i, i < len → σ' 29 0 i = nI (row i)) ∧ jmn (jcy (decide (2 ≤ k)) (jpl k A B D) D) len row)) ∧ ∀ g', g' < 25 ∨ 29 < g' → σ' g' = σ g') := by
  refine jxMet.of (own := "HistoryJudge$CycleSearch") hI (by decide) rfl (Nat.le_of_ble_eq_true rfl) (fun Γ X => ?_)
  show jxW Γ Θ (fun r' σ' => (∃ len, len ≤ 8 ∧ r' = some (.inl (nI len)) ∧ (len = 0 → ∀ n r, 2 ≤ n → n ≤ 8 → ¬ jcy (decide (2 ≤ k)) (jpl k A B D) D n r) ∧ (len ≠ 0 → ∃ row : Nat → Nat, (∀ i, i < len → σ' 29 0 i = nI (row i)) ∧ jmn (jcy (decide (2 ≤ k)) (jpl k A B D) D) len row)) ∧ ∀ g', g' < 25 ∨ 29 < g' → σ' g' = σ g') 0 [some (.inr (24, 0)), some (.inr (20, 0)), some (.inl (nI k)), none, none, none, none, none] [] σ
  have K : ∀ (N : Nat) (t : Nat) (len : Nat) (first : Nat) (σ1 : jxM), 8 - t < N → t ≤ 8 → jfd (fun u => jsf (fun q => jwk (decide (2 ≤ k)) (jpl k A B D) D u q u)) t len first → len ≤ 8 → first < 8 → jGb 25 (jpl k A B D) σ1 → jGb 26 D σ1 → (∀ g', g' < 25 ∨ 29 < g' → σ1 g' = σ g') → jxW Γ Θ (fun r' σ' => (∃ len, len ≤ 8 ∧ r' = some (.inl (nI len)) ∧ (len = 0 → ∀ n r, 2 ≤ n → n ≤ 8 → ¬ jcy (decide (2 ≤ k)) (jpl k A B D) D n r) ∧ (len ≠ 0 → ∃ row : Nat → Nat, (∀ i, i < len → σ' 29 0 i = nI (row i)) ∧ jmn (jcy (decide (2 ≤ k)) (jpl k A B D) D) len row)) ∧ ∀ g', g' < 25 ∨ 29 < g' → σ' g' = σ g') 26 [some (.inr (24, 0)), some (.inr (20, 0)), some (.inl (nI k)), some (.inl (jB (decide (2 ≤ k)))), some (.inl (nI len)), some (.inl (nI first)), some (.inl (nI t)), none] [] σ1 := by
    intro N
    induction N with
    | zero => intro t len first σ1 hn; exact absurd hn (Nat.not_lt_zero _)
    | succ N ih =>
      intro t len first σ1 hn ht hj hl8 hf8 hP1 hD1 hf1
      refine j_iload X (q := 28) d_C_find_26 rfl rfl ?_
      refine j_bipush X (v := (nI 8)) (q := 30) d_C_find_28 (by decide +kernel) rfl ?_
      refine j_ncmp_ge X (tgt := 92) (q := 33) d_C_find_30 (by decide) rfl (by omega) (by omega) (fun h30 => ?_) (fun h30 => ?_)
      · have _b30 := True.intro
        refine j_iload X (q := 94) d_C_find_92 rfl rfl ?_
        refine j_nif_eq X (tgt := 112) (q := 97) d_C_find_94 (by decide) rfl (by omega) (fun h94 => ?_) (fun h94 => ?_)
        · have _b94 := True.intro
          refine j_iload X (q := 114) d_C_find_112 rfl rfl ?_
          refine j_iret X d_C_find_114 ?_
          have et : t = 8 := by omega
          subst et
          exact ⟨⟨len, by omega, rfl, fun _ => by subst h94; exact jfd_none (fun u hu => jsf_sp _) hj, fun q => absurd h94 q⟩, hf1⟩
        · have _b94 := True.intro
          have hl2 : 2 ≤ len ∧ len ≤ 8 ∧ jwk (decide (2 ≤ k)) (jpl k A B D) D first len first = true := by
            rcases hj with ⟨q, -⟩ | ⟨-, -, q, -⟩
            · omega
            · rcases jsf_sp (fun q => jwk (decide (2 ≤ k)) (jpl k A B D) D first q first) with ⟨z, -⟩ | ⟨z1, z2, z3, -⟩
              · exact absurd (q.symm.trans z) (by assumption)
              · have q : jsf (fun q => jwk (decide (2 ≤ k)) (jpl k A B D) D first q first) = len := q
                rw [q] at z1 z2 z3
                exact ⟨z1, z2, z3⟩
          refine j_aload_n X (q := 98) d_C_find_97 rfl rfl ?_
          refine j_iload X (q := 100) d_C_find_98 rfl rfl ?_
          refine j_callV X (n := 1) (C := jR0) (T := jT0) (N := 5) d_C_find_100 (c_C_measure hI hC hP1 hD1 (t := first) (by omega)) rfl rfl (hC _ _ (by decide)) wl238 wl239 wl4 wl40 wl240 (by decide +kernel) ⟨rfl, rfl⟩ (by decide) rfl rfl (Nat.le_of_ble_eq_true rfl) rfl (q := 103) rfl (fun r100 τ100 e100 => ?_)
          obtain ⟨rfl, hv, hfm⟩ := e100
          refine j_aload_n X (q := 104) d_C_find_103 rfl rfl ?_
          refine j_iload X (q := 106) d_C_find_104 rfl rfl ?_
          refine j_iload X (q := 108) d_C_find_106 rfl rfl ?_
          refine j_iload_n X (q := 109) d_C_find_108 rfl rfl ?_
          refine j_callV X (n := 3) (C := jR0) (T := jT0) (N := 5) d_C_find_109 (c_C_trace hI hC (P := jpl k A B D) (M := D) (nd := decide (2 ≤ k)) (f := first) (n := len) (jGb_keep hP1 (hfm 25 (by decide) (by decide))) (jGb_keep hD1 (hfm 26 (by decide) (by decide))) hv (by omega) hl2.1 hl2.2.1 hl2.2.2) rfl rfl (hC _ _ (by decide)) wl247 wl248 wl5 wl40 wl249 (by decide +kernel) ⟨rfl, rfl⟩ (by decide) rfl rfl (Nat.le_of_ble_eq_true rfl) rfl (q := 112) rfl (fun r109 τ109 e109 => ?_)
          obtain ⟨rfl, ⟨row, mo, mp, hrow, hrow0, hjt⟩, hft⟩ := e109
          refine j_iload X (q := 114) d_C_find_112 rfl rfl ?_
          refine j_iret X d_C_find_114 ?_
          have et : t = 8 := by omega
          subst et
          refine ⟨⟨len, by omega, rfl, fun q => absurd q h94, fun _ => ⟨row, hrow, jfd_some (fun u hu => jsf_sp _) hj h94 hrow0 hjt (by omega)⟩⟩, fun g' hg => ?_⟩
          rw [hft g' (by omega), hfm g' (by omega) (by omega), hf1 g' hg]
      · have _b30 := True.intro
        refine j_aload_n X (q := 34) d_C_find_33 rfl rfl ?_
        refine j_iload X (q := 36) d_C_find_34 rfl rfl ?_
        refine j_callV X (n := 1) (C := jR0) (T := jT0) (N := 5) d_C_find_36 (c_C_measure hI hC hP1 hD1 (t := t) (by omega)) rfl rfl (hC _ _ (by decide)) wl238 wl239 wl4 wl40 wl240 (by decide +kernel) ⟨rfl, rfl⟩ (by decide) rfl rfl (Nat.le_of_ble_eq_true rfl) rfl (q := 39) rfl (fun r36 τ36 e36 => ?_)
        obtain ⟨rfl, hv, hfm⟩ := e36
        refine j_iload_n X (q := 40) d_C_find_39 rfl rfl ?_
        refine j_bif_eq X (tgt := 50) (q := 43) d_C_find_40 (by decide) rfl (fun h40 => ?_) (fun h40 => ?_)
        · have _b40 := True.intro
          have hnd : (fun q => jpd (jpl k A B D) t q t) = (fun q => jwk (decide (2 ≤ k)) (jpl k A B D) D t q t) := by funext q; rw [h40]; rfl
          refine j_aload_n X (q := 51) d_C_find_50 rfl rfl ?_
          refine j_getR X (C := jR0) (T := jT0) (N := 5) (ci := 0) (j := 2) (q := 54) d_C_find_51 ju0 rfl rfl rfl (by decide) wl140 rfl (hC _ _ (by decide)) rfl ?_
          refine j_iload X (q := 56) d_C_find_54 rfl rfl ?_
          refine j_callS X (n := 2) d_C_find_56 (c_C_shortest hI (g := 27) (w := jpd (jpl k A B D) t) rfl (hC _ _ (by decide)) (fun q hq => (hv q hq).1) (t := t) (by omega)) wl244 wl245 wl40 wl246 (by decide +kernel) ⟨rfl, rfl⟩ (by decide) rfl rfl (Nat.le_of_ble_eq_true rfl) rfl (q := 59) rfl (fun r56 τ56 e56 => ?_)
          obtain ⟨s9, hs98, rfl, rfl, hs9⟩ := e56
          have hu := jsp_uniq hs9 (jsf_sp _)
          have e9 : s9 = (fun u => jsf (fun q => jwk (decide (2 ≤ k)) (jpl k A B D) D u q u)) t := by rw [hu, hnd]
          have e8 : jsf (fun q => jwk (decide (2 ≤ k)) (jpl k A B D) D t q t) = s9 := e9.symm
          refine j_istore X (q := 61) d_C_find_59 (Nat.le_of_ble_eq_true rfl) rfl ?_
          refine j_iload X (q := 63) d_C_find_61 rfl rfl ?_
          refine j_nif_eq X (tgt := 86) (q := 66) d_C_find_63 (by decide) rfl (by omega) (fun h63 => ?_) (fun h63 => ?_)
          · have _b63 := True.intro
            refine j_iinc X (q := 89) d_C_find_86 rfl (j_inc1 _) rfl ?_
            refine j_goto X (tgt := 26) d_C_find_89 (by decide) ?_
            refine jxW.to (L' := [some (.inr (24, 0)), some (.inr (20, 0)), some (.inl (nI k)), some (.inl (jB (decide (2 ≤ k)))), some (.inl (nI len)), some (.inl (nI first)), some (.inl (nI (t + 1))), none]) (by simp [jfg]) ?_
            exact ih (t + 1) len first _ (by omega) (by omega) (jfd_leave hj (by rw [e8]; omega)) (by omega) (by omega) (jGb_keep hP1 (hfm 25 (by decide) (by decide))) (jGb_keep hD1 (hfm 26 (by decide) (by decide))) (fun g' hg => by rw [hfm g' (by omega) (by omega), hf1 g' hg])
          · have _b63 := True.intro
            refine j_iload X (q := 68) d_C_find_66 rfl rfl ?_
            refine j_nif_eq X (tgt := 78) (q := 71) d_C_find_68 (by decide) rfl (by omega) (fun h68 => ?_) (fun h68 => ?_)
            · have _b68 := True.intro
              refine j_iload X (q := 80) d_C_find_78 rfl rfl ?_
              refine j_istore X (q := 82) d_C_find_80 (Nat.le_of_ble_eq_true rfl) rfl ?_
              refine j_iload X (q := 84) d_C_find_82 rfl rfl ?_
              refine j_istore X (q := 86) d_C_find_84 (Nat.le_of_ble_eq_true rfl) rfl ?_
              refine j_iinc X (q := 89) d_C_find_86 rfl (j_inc1 _) rfl ?_
              refine j_goto X (tgt := 26) d_C_find_89 (by decide) ?_
              refine jxW.to (L' := [some (.inr (24, 0)), some (.inr (20, 0)), some (.inl (nI k)), some (.inl (jB (decide (2 ≤ k)))), some (.inl (nI s9)), some (.inl (nI t)), some (.inl (nI (t + 1))), none]) (by simp [jfg]) ?_
              exact ih (t + 1) s9 t _ (by omega) (by omega) (by rw [e9]; exact jfd_take hj (by rw [e8]; omega) (by rw [e8]; omega)) (by omega) (by omega) (jGb_keep hP1 (hfm 25 (by decide) (by decide))) (jGb_keep hD1 (hfm 26 (by decide) (by decide))) (fun g' hg => by rw [hfm g' (by omega) (by omega), hf1 g' hg])
            · have _b68 := True.intro
              refine j_iload X (q := 73) d_C_find_71 rfl rfl ?_
              refine j_iload X (q := 75) d_C_find_73 rfl rfl ?_
              refine j_ncmp_ge X (tgt := 86) (q := 78) d_C_find_75 (by decide) rfl (by omega) (by omega) (fun h75 => ?_) (fun h75 => ?_)
              · have _b75 := True.intro
                refine j_iinc X (q := 89) d_C_find_86 rfl (j_inc1 _) rfl ?_
                refine j_goto X (tgt := 26) d_C_find_89 (by decide) ?_
                refine jxW.to (L' := [some (.inr (24, 0)), some (.inr (20, 0)), some (.inl (nI k)), some (.inl (jB (decide (2 ≤ k)))), some (.inl (nI len)), some (.inl (nI first)), some (.inl (nI (t + 1))), none]) (by simp [jfg]) ?_
                exact ih (t + 1) len first _ (by omega) (by omega) (jfd_leave hj (by rw [e8]; omega)) (by omega) (by omega) (jGb_keep hP1 (hfm 25 (by decide) (by decide))) (jGb_keep hD1 (hfm 26 (by decide) (by decide))) (fun g' hg => by rw [hfm g' (by omega) (by omega), hf1 g' hg])
              · have _b75 := True.intro
                refine j_iload X (q := 80) d_C_find_78 rfl rfl ?_
                refine j_istore X (q := 82) d_C_find_80 (Nat.le_of_ble_eq_true rfl) rfl ?_
                refine j_iload X (q := 84) d_C_find_82 rfl rfl ?_
                refine j_istore X (q := 86) d_C_find_84 (Nat.le_of_ble_eq_true rfl) rfl ?_
                refine j_iinc X (q := 89) d_C_find_86 rfl (j_inc1 _) rfl ?_
                refine j_goto X (tgt := 26) d_C_find_89 (by decide) ?_
                refine jxW.to (L' := [some (.inr (24, 0)), some (.inr (20, 0)), some (.inl (nI k)), some (.inl (jB (decide (2 ≤ k)))), some (.inl (nI s9)), some (.inl (nI t)), some (.inl (nI (t + 1))), none]) (by simp [jfg]) ?_
                exact ih (t + 1) s9 t _ (by omega) (by omega) (by rw [e9]; exact jfd_take hj (by rw [e8]; omega) (by rw [e8]; omega)) (by omega) (by omega) (jGb_keep hP1 (hfm 25 (by decide) (by decide))) (jGb_keep hD1 (hfm 26 (by decide) (by decide))) (fun g' hg => by rw [hfm g' (by omega) (by omega), hf1 g' hg])
        · have _b40 := True.intro
          have hnd : (fun q => jow (jpl k A B D) D t q t) = (fun q => jwk (decide (2 ≤ k)) (jpl k A B D) D t q t) := by funext q; rw [h40]; rfl
          refine j_aload_n X (q := 44) d_C_find_43 rfl rfl ?_
          refine j_getR X (C := jR0) (T := jT0) (N := 5) (ci := 0) (j := 3) (q := 47) d_C_find_44 ju0 rfl rfl rfl (by decide) wl141 rfl (hC _ _ (by decide)) rfl ?_
          refine j_goto X (tgt := 54) d_C_find_47 (by decide) ?_
          refine j_iload X (q := 56) d_C_find_54 rfl rfl ?_
          refine j_callS X (n := 2) d_C_find_56 (c_C_shortest hI (g := 28) (w := jow (jpl k A B D) D t) rfl (hC _ _ (by decide)) (fun q hq => (hv q hq).2) (t := t) (by omega)) wl244 wl245 wl40 wl246 (by decide +kernel) ⟨rfl, rfl⟩ (by decide) rfl rfl (Nat.le_of_ble_eq_true rfl) rfl (q := 59) rfl (fun r56 τ56 e56 => ?_)
          obtain ⟨s9, hs98, rfl, rfl, hs9⟩ := e56
          have hu := jsp_uniq hs9 (jsf_sp _)
          have e9 : s9 = (fun u => jsf (fun q => jwk (decide (2 ≤ k)) (jpl k A B D) D u q u)) t := by rw [hu, hnd]
          have e8 : jsf (fun q => jwk (decide (2 ≤ k)) (jpl k A B D) D t q t) = s9 := e9.symm
          refine j_istore X (q := 61) d_C_find_59 (Nat.le_of_ble_eq_true rfl) rfl ?_
          refine j_iload X (q := 63) d_C_find_61 rfl rfl ?_
          refine j_nif_eq X (tgt := 86) (q := 66) d_C_find_63 (by decide) rfl (by omega) (fun h63 => ?_) (fun h63 => ?_)
          · have _b63 := True.intro
            refine j_iinc X (q := 89) d_C_find_86 rfl (j_inc1 _) rfl ?_
            refine j_goto X (tgt := 26) d_C_find_89 (by decide) ?_
            refine jxW.to (L' := [some (.inr (24, 0)), some (.inr (20, 0)), some (.inl (nI k)), some (.inl (jB (decide (2 ≤ k)))), some (.inl (nI len)), some (.inl (nI first)), some (.inl (nI (t + 1))), none]) (by simp [jfg]) ?_
            exact ih (t + 1) len first _ (by omega) (by omega) (jfd_leave hj (by rw [e8]; omega)) (by omega) (by omega) (jGb_keep hP1 (hfm 25 (by decide) (by decide))) (jGb_keep hD1 (hfm 26 (by decide) (by decide))) (fun g' hg => by rw [hfm g' (by omega) (by omega), hf1 g' hg])
          · have _b63 := True.intro
            refine j_iload X (q := 68) d_C_find_66 rfl rfl ?_
            refine j_nif_eq X (tgt := 78) (q := 71) d_C_find_68 (by decide) rfl (by omega) (fun h68 => ?_) (fun h68 => ?_)
            · have _b68 := True.intro
              refine j_iload X (q := 80) d_C_find_78 rfl rfl ?_
              refine j_istore X (q := 82) d_C_find_80 (Nat.le_of_ble_eq_true rfl) rfl ?_
              refine j_iload X (q := 84) d_C_find_82 rfl rfl ?_
              refine j_istore X (q := 86) d_C_find_84 (Nat.le_of_ble_eq_true rfl) rfl ?_
              refine j_iinc X (q := 89) d_C_find_86 rfl (j_inc1 _) rfl ?_
              refine j_goto X (tgt := 26) d_C_find_89 (by decide) ?_
              refine jxW.to (L' := [some (.inr (24, 0)), some (.inr (20, 0)), some (.inl (nI k)), some (.inl (jB (decide (2 ≤ k)))), some (.inl (nI s9)), some (.inl (nI t)), some (.inl (nI (t + 1))), none]) (by simp [jfg]) ?_
              exact ih (t + 1) s9 t _ (by omega) (by omega) (by rw [e9]; exact jfd_take hj (by rw [e8]; omega) (by rw [e8]; omega)) (by omega) (by omega) (jGb_keep hP1 (hfm 25 (by decide) (by decide))) (jGb_keep hD1 (hfm 26 (by decide) (by decide))) (fun g' hg => by rw [hfm g' (by omega) (by omega), hf1 g' hg])
            · have _b68 := True.intro
              refine j_iload X (q := 73) d_C_find_71 rfl rfl ?_
              refine j_iload X (q := 75) d_C_find_73 rfl rfl ?_
              refine j_ncmp_ge X (tgt := 86) (q := 78) d_C_find_75 (by decide) rfl (by omega) (by omega) (fun h75 => ?_) (fun h75 => ?_)
              · have _b75 := True.intro
                refine j_iinc X (q := 89) d_C_find_86 rfl (j_inc1 _) rfl ?_
                refine j_goto X (tgt := 26) d_C_find_89 (by decide) ?_
                refine jxW.to (L' := [some (.inr (24, 0)), some (.inr (20, 0)), some (.inl (nI k)), some (.inl (jB (decide (2 ≤ k)))), some (.inl (nI len)), some (.inl (nI first)), some (.inl (nI (t + 1))), none]) (by simp [jfg]) ?_
                exact ih (t + 1) len first _ (by omega) (by omega) (jfd_leave hj (by rw [e8]; omega)) (by omega) (by omega) (jGb_keep hP1 (hfm 25 (by decide) (by decide))) (jGb_keep hD1 (hfm 26 (by decide) (by decide))) (fun g' hg => by rw [hfm g' (by omega) (by omega), hf1 g' hg])
              · have _b75 := True.intro
                refine j_iload X (q := 80) d_C_find_78 rfl rfl ?_
                refine j_istore X (q := 82) d_C_find_80 (Nat.le_of_ble_eq_true rfl) rfl ?_
                refine j_iload X (q := 84) d_C_find_82 rfl rfl ?_
                refine j_istore X (q := 86) d_C_find_84 (Nat.le_of_ble_eq_true rfl) rfl ?_
                refine j_iinc X (q := 89) d_C_find_86 rfl (j_inc1 _) rfl ?_
                refine j_goto X (tgt := 26) d_C_find_89 (by decide) ?_
                refine jxW.to (L' := [some (.inr (24, 0)), some (.inr (20, 0)), some (.inl (nI k)), some (.inl (jB (decide (2 ≤ k)))), some (.inl (nI s9)), some (.inl (nI t)), some (.inl (nI (t + 1))), none]) (by simp [jfg]) ?_
                exact ih (t + 1) s9 t _ (by omega) (by omega) (by rw [e9]; exact jfd_take hj (by rw [e8]; omega) (by rw [e8]; omega)) (by omega) (by omega) (jGb_keep hP1 (hfm 25 (by decide) (by decide))) (jGb_keep hD1 (hfm 26 (by decide) (by decide))) (fun g' hg => by rw [hfm g' (by omega) (by omega), hf1 g' hg])
  refine j_aload_n X (q := 1) d_C_find_0 rfl rfl ?_
  refine j_aload_n X (q := 2) d_C_find_1 rfl rfl ?_
  refine j_iload_n X (q := 3) d_C_find_2 rfl rfl ?_
  refine j_callV X (n := 2) (C := jR0) (T := jT0) (N := 5) d_C_find_3 (c_C_sortEdges hI hC hA hB hD hk4) rfl rfl (hC _ _ (by decide)) wl235 wl236 wl3 wl40 wl237 (by decide +kernel) ⟨rfl, rfl⟩ (by decide) rfl rfl (Nat.le_of_ble_eq_true rfl) rfl (q := 6) rfl (fun r3 τ3 e3 => ?_)
  obtain ⟨rfl, hP0, hD0, hf0⟩ := e3
  refine j_iload_n X (q := 7) d_C_find_6 rfl rfl ?_
  refine j_iconst X (v := (nI 2)) (q := 8) d_C_find_7 (by decide +kernel) rfl ?_
  refine j_ncmp_lt X (tgt := 15) (q := 11) d_C_find_8 (by decide) rfl (by omega) (by omega) (fun h8 => ?_) (fun h8 => ?_)
  · have _b8 := True.intro
    have hnd0 : nI 0 = jB (decide (2 ≤ k)) := by rw [decide_eq_false (show ¬ 2 ≤ k by omega)]; rfl
    refine j_iconst X (v := (nI 0)) (q := 16) d_C_find_15 (by decide +kernel) rfl ?_
    refine j_istore_n X (j := 3) (q := 17) d_C_find_16 rfl (Nat.le_of_ble_eq_true rfl) rfl ?_
    refine j_iconst X (v := (nI 0)) (q := 18) d_C_find_17 (by decide +kernel) rfl ?_
    refine j_istore X (q := 20) d_C_find_18 (Nat.le_of_ble_eq_true rfl) rfl ?_
    refine j_iconst X (v := (nI 0)) (q := 21) d_C_find_20 (by decide +kernel) rfl ?_
    refine j_istore X (q := 23) d_C_find_21 (Nat.le_of_ble_eq_true rfl) rfl ?_
    refine j_iconst X (v := (nI 0)) (q := 24) d_C_find_23 (by decide +kernel) rfl ?_
    refine j_istore X (q := 26) d_C_find_24 (Nat.le_of_ble_eq_true rfl) rfl ?_
    refine jxW.to (L' := [some (.inr (24, 0)), some (.inr (20, 0)), some (.inl (nI k)), some (.inl (jB (decide (2 ≤ k)))), some (.inl (nI 0)), some (.inl (nI 0)), some (.inl (nI 0)), none]) (by simp [jfg, hnd0]) ?_
    exact K 9 0 0 0 _ (by omega) (by omega) jfd_0 (by omega) (by omega) hP0 hD0 (fun g' hg => hf0 g' (by omega) (by omega))
  · have _b8 := True.intro
    have hnd0 : nI 1 = jB (decide (2 ≤ k)) := by rw [decide_eq_true (show 2 ≤ k by omega)]; rfl
    refine j_iconst X (v := (nI 1)) (q := 12) d_C_find_11 (by decide +kernel) rfl ?_
    refine j_goto X (tgt := 16) d_C_find_12 (by decide) ?_
    refine j_istore_n X (j := 3) (q := 17) d_C_find_16 rfl (Nat.le_of_ble_eq_true rfl) rfl ?_
    refine j_iconst X (v := (nI 0)) (q := 18) d_C_find_17 (by decide +kernel) rfl ?_
    refine j_istore X (q := 20) d_C_find_18 (Nat.le_of_ble_eq_true rfl) rfl ?_
    refine j_iconst X (v := (nI 0)) (q := 21) d_C_find_20 (by decide +kernel) rfl ?_
    refine j_istore X (q := 23) d_C_find_21 (Nat.le_of_ble_eq_true rfl) rfl ?_
    refine j_iconst X (v := (nI 0)) (q := 24) d_C_find_23 (by decide +kernel) rfl ?_
    refine j_istore X (q := 26) d_C_find_24 (Nat.le_of_ble_eq_true rfl) rfl ?_
    refine jxW.to (L' := [some (.inr (24, 0)), some (.inr (20, 0)), some (.inl (nI k)), some (.inl (jB (decide (2 ≤ k)))), some (.inl (nI 0)), some (.inl (nI 0)), some (.inl (nI 0)), none]) (by simp [jfg, hnd0]) ?_
    exact K 9 0 0 0 _ (by omega) (by omega) jfd_0 (by omega) (by omega) hP0 hD0 (fun g' hg => hf0 g' (by omega) (by omega))
end
section
/-! The search for serial orders: what the reads ask for. -/
/-- what the search holds: committed, who must stand before whom, who must not be cut off, whether it is sound -/
def jZs (C : Nat → Bool) (bf : Nat → Nat → Prop) (rb : Nat → Nat → Nat → Prop) (sd : Bool) (σ : jxM) : Prop :=
  σ 30 0 3 = bI C ∧ σ 30 0 4 = jB sd ∧ (∀ t, t < 8 → σ 31 0 t = bI (fun u => jd (bf t u))) ∧ ∀ w t, w < 8 → t < 8 → σ 33 w t = bI (fun u => jd (rb w t u))
theorem jZs_ext {C : Nat → Bool} {bf bf' : Nat → Nat → Prop} {rb rb' : Nat → Nat → Nat → Prop} {sd sd' : Bool} {σ : jxM} (h : jZs C bf rb sd σ) (e1 : ∀ t u, t < 8 → u < 8 → (bf t u ↔ bf' t u)) (e2 : ∀ w t u, w < 8 → t < 8 → u < 8 → (rb w t u ↔ rb' w t u)) (e3 : sd = sd') : jZs C bf' rb' sd' σ := by
  subst e3
  refine ⟨h.1, h.2.1, fun t ht => ?_, fun w t hw ht => ?_⟩
  · rw [h.2.2.1 t ht]; exact bI_ext (fun u hu => jd_ext (e1 t u ht hu))
  · rw [h.2.2.2 w t hw ht]; exact bI_ext (fun u hu => jd_ext (e2 w t u hw ht hu))
theorem jZs_keep {C : Nat → Bool} {bf : Nat → Nat → Prop} {rb : Nat → Nat → Nat → Prop} {sd : Bool} {σ σ' : jxM} (h : jZs C bf rb sd σ) (e30 : σ' 30 = σ 30) (e31 : σ' 31 = σ 31) (e33 : σ' 33 = σ 33) : jZs C bf rb sd σ' := by
  unfold jZs; rw [e30, e31, e33]; exact h
theorem jZs_bf {C : Nat → Bool} {bf : Nat → Nat → Prop} {rb : Nat → Nat → Nat → Prop} {sd : Bool} {σ : jxM} (h : jZs C bf rb sd σ) {t u : Nat} (ht : t < 8) : jZs C (fun a v => bf a v ∨ (a = t ∧ v = u)) rb sd (jxs σ 31 0 t (bI (fun v => jd (bf t v) || decide (v = u)))) := by
  refine ⟨by rw [jxs_g _ _ _ _ _ (by decide)]; exact h.1, by rw [jxs_g _ _ _ _ _ (by decide)]; exact h.2.1, fun a ha => ?_, fun w a hw ha => by rw [jxs_g _ _ _ _ _ (by decide)]; exact h.2.2.2 w a hw ha⟩
  rw [jxs_at]
  by_cases e : a = t
  · subst e
    rw [if_pos ⟨rfl, rfl, rfl⟩]
    refine bI_ext (fun v hv => ?_)
    rw [Bool.eq_iff_iff, Bool.or_eq_true, jd_iff, jd_iff, decide_eq_true_eq]
    exact ⟨fun q => q.elim Or.inl (fun z => Or.inr ⟨rfl, z⟩), fun q => q.elim Or.inl (fun z => Or.inr z.2)⟩
  · rw [if_neg (fun q => e q.2.2), h.2.2.1 a ha]
    exact bI_ext (fun v hv => jd_ext ⟨Or.inl, fun q => q.elim id (fun z => absurd z.1 e)⟩)
theorem jZs_rb {C : Nat → Bool} {bf : Nat → Nat → Prop} {rb : Nat → Nat → Nat → Prop} {sd : Bool} {σ : jxM} (h : jZs C bf rb sd σ) {w t u : Nat} (hw : w < 8) (ht : t < 8) : jZs C bf (fun w' a v => rb w' a v ∨ (w' = w ∧ a = t ∧ v = u)) sd (jxs σ 33 w t (bI (fun v => jd (rb w t v) || decide (v = u)))) := by
  refine ⟨by rw [jxs_g _ _ _ _ _ (by decide)]; exact h.1, by rw [jxs_g _ _ _ _ _ (by decide)]; exact h.2.1, fun a ha => by rw [jxs_g _ _ _ _ _ (by decide)]; exact h.2.2.1 a ha, fun w' a hw' ha => ?_⟩
  rw [jxs_at]
  by_cases e : w' = w ∧ a = t
  · obtain ⟨rfl, rfl⟩ := e
    rw [if_pos ⟨rfl, rfl, rfl⟩]
    refine bI_ext (fun v hv => ?_)
    rw [Bool.eq_iff_iff, Bool.or_eq_true, jd_iff, jd_iff, decide_eq_true_eq]
    exact ⟨fun q => q.elim Or.inl (fun z => Or.inr ⟨rfl, rfl, z⟩), fun q => q.elim Or.inl (fun z => Or.inr z.2.2)⟩
  · rw [if_neg (fun q => e q.2), h.2.2.2 w' a hw' ha]
    exact bI_ext (fun v hv => jd_ext ⟨Or.inl, fun q => q.elim id (fun z => absurd ⟨z.1, z.2.1⟩ e)⟩)
theorem jsomeN {o : Option Nat} : o.isSome = true ↔ o ≠ none := by cases o <;> simp
set_option maxRecDepth 100000 in
set_option maxHeartbeats 4000000 in
theorem c_S_takeFirstRead {l : Launch} {Θ : jxT} (hI : jxI Θ) (hC : ∀ g r, r < jrwJ g → Θ.2.2.2 g r) {h : jH} {σ : jxM} (hw : jHw h) (hs : jHs h σ) {C : Nat → Bool} {bf : Nat → Nat → Prop} {rb : Nat → Nat → Nat → Prop} {sd : Bool} (hz : jZs C bf rb sd σ) {u x : Nat} (hu : u < 8) (hx : x < 6) : jxMet l y_S_takeFirstRead b_S_takeFirstRead 5 none (jrm 3) Θ [.inr (30, 0), .inr (1, 0), .inl (nI u), .inl (nI x)] σ (fun r' σ' => r' = none ∧ jZs C (fun a v => bf a v ∨ (a ≠ u ∧ C a = true ∧ hylt h a x ≠ none ∧ v = u)) rb sd σ' ∧ ∀ g', g' ≠ 31 → σ' g' = σ g') := by
  refine jxMet.of (own := "HistoryJudge$SerialSearch") hI (by decide) rfl (Nat.le_of_ble_eq_true rfl) (fun Γ X => ?_)
  show jxW Γ Θ (fun r' σ' => r' = none ∧ jZs C (fun a v => bf a v ∨ (a ≠ u ∧ C a = true ∧ hylt h a x ≠ none ∧ v = u)) rb sd σ' ∧ ∀ g', g' ≠ 31 → σ' g' = σ g') 0 [some (.inr (30, 0)), some (.inr (1, 0)), some (.inl (nI u)), some (.inl (nI x)), none] [] σ
  have K : ∀ (N : Nat) (t : Nat) (σ1 : jxM), 8 - t < N → t ≤ 8 → jZs C (fun a v => bf a v ∨ (a < t ∧ a ≠ u ∧ C a = true ∧ hylt h a x ≠ none ∧ v = u)) rb sd σ1 → (∀ g', g' ≠ 31 → σ1 g' = σ g') → jxW Γ Θ (fun r' σ' => r' = none ∧ jZs C (fun a v => bf a v ∨ (a ≠ u ∧ C a = true ∧ hylt h a x ≠ none ∧ v = u)) rb sd σ' ∧ ∀ g', g' ≠ 31 → σ' g' = σ g') 3 [some (.inr (30, 0)), some (.inr (1, 0)), some (.inl (nI u)), some (.inl (nI x)), some (.inl (nI t))] [] σ1 := by
    intro N
    induction N with
    | zero => intro t σ1 hn; exact absurd hn (Nat.not_lt_zero _)
    | succ N ih =>
      intro t σ1 hn ht hz1 hf1
      refine j_iload X (q := 5) d_S_takeFirstRead_3 rfl rfl ?_
      refine j_bipush X (v := (nI 8)) (q := 7) d_S_takeFirstRead_5 (by decide +kernel) rfl ?_
      refine j_ncmp_ge X (tgt := 58) (q := 10) d_S_takeFirstRead_7 (by decide) rfl (by omega) (by omega) (fun h7 => ?_) (fun h7 => ?_)
      · have _b7 := True.intro
        refine j_vret X d_S_takeFirstRead_58 ?_
        exact ⟨rfl, jZs_ext hz1 (fun a v ha _ => ⟨fun q => q.elim Or.inl (fun z => Or.inr z.2), fun q => q.elim Or.inl (fun z => Or.inr ⟨by omega, z⟩)⟩) (fun _ _ _ _ _ _ => Iff.rfl) rfl, hf1⟩
      · have _b7 := True.intro
        have hs1 : jHs h σ1 := jHs_keep hs (fun g hg => hf1 g (by omega))
        refine j_iload X (q := 12) d_S_takeFirstRead_10 rfl rfl ?_
        refine j_iload_n X (q := 13) d_S_takeFirstRead_12 rfl rfl ?_
        refine j_ncmp_eq X (tgt := 52) (q := 16) d_S_takeFirstRead_13 (by decide) rfl (by omega) (by omega) (fun h13 => ?_) (fun h13 => ?_)
        · have _b13 := True.intro
          refine j_iinc X (q := 55) d_S_takeFirstRead_52 rfl (j_inc1 _) rfl ?_
          refine j_goto X (tgt := 3) d_S_takeFirstRead_55 (by decide) ?_
          exact ih (t + 1) σ1 (by omega) (by omega) (jZs_ext hz1 (fun a v _ _ => ⟨fun q => q.elim Or.inl (fun z => Or.inr ⟨by omega, z.2⟩), fun q => q.elim Or.inl (fun z => by
            by_cases e : a = t
            · exfalso; subst e; exact z.2.1 h13
            · exact Or.inr ⟨by omega, z.2⟩)⟩) (fun _ _ _ _ _ _ => Iff.rfl) rfl) hf1
        · have _b13 := True.intro
          refine j_aload_n X (q := 17) d_S_takeFirstRead_16 rfl rfl ?_
          refine j_getI X (C := jR3) (T := jT3) (N := 5) (ci := 3) (j := 3) (q := 20) d_S_takeFirstRead_17 ju3 rfl rfl rfl (by decide) wl159 rfl (hC _ _ (by decide)) rfl hz1.1 ?_
          refine j_iload X (q := 22) d_S_takeFirstRead_20 rfl rfl ?_
          refine j_callSN X (n := 2) d_S_takeFirstRead_22 (c_J_has hI C (t := t) (by omega) _) wl225 nl8 wl36 wl224 (by decide +kernel) ⟨rfl, rfl⟩ (by decide) rfl rfl (Nat.le_of_ble_eq_true rfl) rfl (q := 25) rfl (fun r22 τ22 e22 => ?_)
          obtain ⟨rfl, rfl⟩ := e22
          refine j_bif_eq X (tgt := 52) (q := 28) d_S_takeFirstRead_25 (by decide) rfl (fun h25 => ?_) (fun h25 => ?_)
          · have _b25 := True.intro
            refine j_iinc X (q := 55) d_S_takeFirstRead_52 rfl (j_inc1 _) rfl ?_
            refine j_goto X (tgt := 3) d_S_takeFirstRead_55 (by decide) ?_
            exact ih (t + 1) σ1 (by omega) (by omega) (jZs_ext hz1 (fun a v _ _ => ⟨fun q => q.elim Or.inl (fun z => Or.inr ⟨by omega, z.2⟩), fun q => q.elim Or.inl (fun z => by
              by_cases e : a = t
              · exfalso; subst e; rw [z.2.2.1] at h25; cases h25
              · exact Or.inr ⟨by omega, z.2⟩)⟩) (fun _ _ _ _ _ _ => Iff.rfl) rfl) hf1
          · have _b25 := True.intro
            refine j_aload_n X (q := 29) d_S_takeFirstRead_28 rfl rfl ?_
            refine j_iload X (q := 31) d_S_takeFirstRead_29 rfl rfl ?_
            refine j_iload_n X (q := 32) d_S_takeFirstRead_31 rfl rfl ?_
            refine j_callV X (n := 2) (C := jR2) (T := jT2) (N := 12) d_S_takeFirstRead_32 (c_H_hasWritten hI (fun g r q => hC g r (jHJ q)) hw hs1 (t := t) (x := x) (by omega) hx) rfl rfl (hC _ _ (by decide)) wl308 wl309 wl310 wl37 wl311 (by decide +kernel) ⟨rfl, rfl⟩ (by decide) rfl rfl (Nat.le_of_ble_eq_true rfl) rfl (q := 35) rfl (fun r32 τ32 e32 => ?_)
            obtain ⟨rfl, rfl⟩ := e32
            refine j_bif_eq X (tgt := 52) (q := 38) d_S_takeFirstRead_35 (by decide) rfl (fun h35 => ?_) (fun h35 => ?_)
            · have _b35 := True.intro
              refine j_iinc X (q := 55) d_S_takeFirstRead_52 rfl (j_inc1 _) rfl ?_
              refine j_goto X (tgt := 3) d_S_takeFirstRead_55 (by decide) ?_
              exact ih (t + 1) σ1 (by omega) (by omega) (jZs_ext hz1 (fun a v _ _ => ⟨fun q => q.elim Or.inl (fun z => Or.inr ⟨by omega, z.2⟩), fun q => q.elim Or.inl (fun z => by
                by_cases e : a = t
                · exfalso; subst e; have := jsomeN.mpr z.2.2.2.1; rw [h35] at this; cases this
                · exact Or.inr ⟨by omega, z.2⟩)⟩) (fun _ _ _ _ _ _ => Iff.rfl) rfl) hf1
            · have _b35 := True.intro
              refine j_aload_n X (q := 39) d_S_takeFirstRead_38 rfl rfl ?_
              refine j_getR X (C := jR3) (T := jT3) (N := 5) (ci := 3) (j := 0) (q := 42) d_S_takeFirstRead_39 ju3 rfl rfl rfl (by decide) wl155 rfl (hC _ _ (by decide)) rfl ?_
              refine j_iload X (q := 44) d_S_takeFirstRead_42 rfl rfl ?_
              refine j_dup2 X (q := 45) d_S_takeFirstRead_44 rfl ?_
              refine j_iald X (q := 46) d_S_takeFirstRead_45 rfl (by decide) rfl (by omega) (hC _ _ (by decide)) rfl (hz1.2.2.1 t (by omega)) ?_
              refine j_iload_n X (q := 47) d_S_takeFirstRead_46 rfl rfl ?_
              refine j_callSN X (n := 1) d_S_takeFirstRead_47 (c_J_only hI hu _) wl208 nl9 wl36 wl207 (by decide +kernel) ⟨rfl, rfl⟩ (by decide) rfl rfl (Nat.le_of_ble_eq_true rfl) rfl (q := 50) rfl (fun r47 τ47 e47 => ?_)
              obtain ⟨rfl, rfl⟩ := e47
              refine j_ior X (q := 51) d_S_takeFirstRead_50 rfl ?_
              refine j_iast X (q := 52) d_S_takeFirstRead_51 rfl (by decide) rfl (by omega) (hC _ _ (by decide)) rfl ?_
              refine j_iinc X (q := 55) d_S_takeFirstRead_52 rfl (j_inc1 _) rfl ?_
              refine j_goto X (tgt := 3) d_S_takeFirstRead_55 (by decide) ?_
              rw [bI_or]
              refine ih (t + 1) _ (by omega) (by omega) (jZs_ext (jZs_bf hz1 (t := t) (u := u) (by omega)) (fun a v _ _ => ⟨fun q => ?_, fun q => ?_⟩) (fun _ _ _ _ _ _ => Iff.rfl) rfl) (fun g' hg => by rw [jxs_g _ _ _ _ _ hg, hf1 g' hg])
              · rcases q with (q | z) | ⟨rfl, rfl⟩
                · exact Or.inl q
                · exact Or.inr ⟨by omega, z.2⟩
                · exact Or.inr ⟨by omega, h13, h25, jsomeN.mp h35, rfl⟩
              · rcases q with q | z
                · exact Or.inl (Or.inl q)
                · by_cases e : a = t
                  · exact Or.inr ⟨e, z.2.2.2.2⟩
                  · exact Or.inl (Or.inr ⟨by omega, z.2⟩)
  refine j_iconst X (v := (nI 0)) (q := 1) d_S_takeFirstRead_0 (by decide +kernel) rfl ?_
  refine j_istore X (q := 3) d_S_takeFirstRead_1 (Nat.le_of_ble_eq_true rfl) rfl ?_
  refine jxW.to (L' := [some (.inr (30, 0)), some (.inr (1, 0)), some (.inl (nI u)), some (.inl (nI x)), some (.inl (nI 0))]) (by simp [jfg]) ?_
  exact K 9 0 σ (by omega) (by omega) (jZs_ext hz (fun a v _ _ => ⟨Or.inl, fun q => q.elim id (fun z => by omega)⟩) (fun _ _ _ _ _ _ => Iff.rfl) rfl) (fun _ _ => rfl)
set_option maxRecDepth 100000 in
set_option maxHeartbeats 4000000 in
theorem c_S_takeForeignRead {l : Launch} {Θ : jxT} (hI : jxI Θ) (hC : ∀ g r, r < jrwJ g → Θ.2.2.2 g r) {h : jH} {σ : jxM} (hw : jHw h) (hs : jHs h σ) {C : Nat → Bool} {bf : Nat → Nat → Prop} {rb : Nat → Nat → Nat → Prop} {sd : Bool} (hz : jZs C bf rb sd σ) {r w : Nat} (hr : r < hyR h) (hw8 : w < 8) : jxMet l y_S_takeForeignRead b_S_takeForeignRead 7 none (jrm 3) Θ [.inr (30, 0), .inr (1, 0), .inl (nI r), .inl (nI w)] σ (fun r' σ' => r' = none ∧ jZs C (fun a v => bf a v ∨ (a = hyrd h r ∧ v = w)) (fun w' a v => rb w' a v ∨ (w' = w ∧ a ≠ hyrd h r ∧ a ≠ w ∧ hylt h a (hyri h r) ≠ none ∧ v = hyrd h r)) sd σ' ∧ ∀ g', g' ≠ 31 → g' ≠ 33 → σ' g' = σ g') := by
  refine jxMet.of (own := "HistoryJudge$SerialSearch") hI (by decide) rfl (Nat.le_of_ble_eq_true rfl) (fun Γ X => ?_)
  show jxW Γ Θ (fun r' σ' => r' = none ∧ jZs C (fun a v => bf a v ∨ (a = hyrd h r ∧ v = w)) (fun w' a v => rb w' a v ∨ (w' = w ∧ a ≠ hyrd h r ∧ a ≠ w ∧ hylt h a (hyri h r) ≠ none ∧ v = hyrd h r)) sd σ' ∧ ∀ g', g' ≠ 31 → g' ≠ 33 → σ' g' = σ g') 0 [some (.inr (30, 0)), some (.inr (1, 0)), some (.inl (nI r)), some (.inl (nI w)), none, none, none] [] σ
  have bR := jHw_R hw
  have b1 := jHw_rd hw hr
  have b2 := jHw_ri hw hr
  have K : ∀ (N : Nat) (t : Nat) (σ1 : jxM), 8 - t < N → t ≤ 8 → jZs C (fun a v => bf a v ∨ (a = hyrd h r ∧ v = w)) (fun w' a v => rb w' a v ∨ (a < t ∧ w' = w ∧ a ≠ hyrd h r ∧ a ≠ w ∧ hylt h a (hyri h r) ≠ none ∧ v = hyrd h r)) sd σ1 → (∀ g', g' ≠ 31 → g' ≠ 33 → σ1 g' = σ g') → jxW Γ Θ (fun r' σ' => r' = none ∧ jZs C (fun a v => bf a v ∨ (a = hyrd h r ∧ v = w)) (fun w' a v => rb w' a v ∨ (w' = w ∧ a ≠ hyrd h r ∧ a ≠ w ∧ hylt h a (hyri h r) ≠ none ∧ v = hyrd h r)) sd σ' ∧ ∀ g', g' ≠ 31 → g' ≠ 33 → σ' g' = σ g') 33 [some (.inr (30, 0)), some (.inr (1, 0)), some (.inl (nI r)), some (.inl (nI w)), some (.inl (nI (hyrd h r))), some (.inl (nI (hyri h r))), some (.inl (nI t))] [] σ1 := by
    intro N
    induction N with
    | zero => intro t σ1 hn; exact absurd hn (Nat.not_lt_zero _)
    | succ N ih =>
      intro t σ1 hn ht hz1 hf1
      refine j_iload X (q := 35) d_S_takeForeignRead_33 rfl rfl ?_
      refine j_bipush X (v := (nI 8)) (q := 37) d_S_takeForeignRead_35 (by decide +kernel) rfl ?_
      refine j_ncmp_ge X (tgt := 87) (q := 40) d_S_takeForeignRead_37 (by decide) rfl (by omega) (by omega) (fun h37 => ?_) (fun h37 => ?_)
      · have _b37 := True.intro
        refine j_vret X d_S_takeForeignRead_87 ?_
        exact ⟨rfl, jZs_ext hz1 (fun _ _ _ _ => Iff.rfl) (fun w' a v _ ha _ => ⟨fun q => q.elim Or.inl (fun z => Or.inr z.2), fun q => q.elim Or.inl (fun z => Or.inr ⟨by omega, z⟩)⟩) rfl, hf1⟩
      · have _b37 := True.intro
        have hs1 : jHs h σ1 := jHs_keep hs (fun g hg => hf1 g (by omega) (by omega))
        refine j_iload X (q := 42) d_S_takeForeignRead_40 rfl rfl ?_
        refine j_iload X (q := 44) d_S_takeForeignRead_42 rfl rfl ?_
        refine j_ncmp_eq X (tgt := 81) (q := 47) d_S_takeForeignRead_44 (by decide) rfl (by omega) (by omega) (fun h44 => ?_) (fun h44 => ?_)
        · have _b44 := True.intro
          refine j_iinc X (q := 84) d_S_takeForeignRead_81 rfl (j_inc1 _) rfl ?_
          refine j_goto X (tgt := 33) d_S_takeForeignRead_84 (by decide) ?_
          exact ih (t + 1) σ1 (by omega) (by omega) (jZs_ext hz1 (fun _ _ _ _ => Iff.rfl) (fun w' a v _ _ _ => ⟨fun q => q.elim Or.inl (fun z => Or.inr ⟨by omega, z.2⟩), fun q => q.elim Or.inl (fun z => by
            by_cases e : a = t
            · exfalso; subst e; exact z.2.2.1 h44
            · exact Or.inr ⟨by omega, z.2⟩)⟩) rfl) hf1
        · have _b44 := True.intro
          refine j_iload X (q := 49) d_S_takeForeignRead_47 rfl rfl ?_
          refine j_iload_n X (q := 50) d_S_takeForeignRead_49 rfl rfl ?_
          refine j_ncmp_eq X (tgt := 81) (q := 53) d_S_takeForeignRead_50 (by decide) rfl (by omega) (by omega) (fun h50 => ?_) (fun h50 => ?_)
          · have _b50 := True.intro
            refine j_iinc X (q := 84) d_S_takeForeignRead_81 rfl (j_inc1 _) rfl ?_
            refine j_goto X (tgt := 33) d_S_takeForeignRead_84 (by decide) ?_
            exact ih (t + 1) σ1 (by omega) (by omega) (jZs_ext hz1 (fun _ _ _ _ => Iff.rfl) (fun w' a v _ _ _ => ⟨fun q => q.elim Or.inl (fun z => Or.inr ⟨by omega, z.2⟩), fun q => q.elim Or.inl (fun z => by
              by_cases e : a = t
              · exfalso; subst e; exact z.2.2.2.1 h50
              · exact Or.inr ⟨by omega, z.2⟩)⟩) rfl) hf1
          · have _b50 := True.intro
            refine j_aload_n X (q := 54) d_S_takeForeignRead_53 rfl rfl ?_
            refine j_iload X (q := 56) d_S_takeForeignRead_54 rfl rfl ?_
            refine j_iload X (q := 58) d_S_takeForeignRead_56 rfl rfl ?_
            refine j_callV X (n := 2) (C := jR2) (T := jT2) (N := 12) d_S_takeForeignRead_58 (c_H_hasWritten hI (fun g r q => hC g r (jHJ q)) hw hs1 (t := t) (x := hyri h r) (by omega) b2) rfl rfl (hC _ _ (by decide)) wl308 wl309 wl310 wl37 wl311 (by decide +kernel) ⟨rfl, rfl⟩ (by decide) rfl rfl (Nat.le_of_ble_eq_true rfl) rfl (q := 61) rfl (fun r58 τ58 e58 => ?_)
            obtain ⟨rfl, rfl⟩ := e58
            refine j_bif_eq X (tgt := 81) (q := 64) d_S_takeForeignRead_61 (by decide) rfl (fun h61 => ?_) (fun h61 => ?_)
            · have _b61 := True.intro
              refine j_iinc X (q := 84) d_S_takeForeignRead_81 rfl (j_inc1 _) rfl ?_
              refine j_goto X (tgt := 33) d_S_takeForeignRead_84 (by decide) ?_
              exact ih (t + 1) σ1 (by omega) (by omega) (jZs_ext hz1 (fun _ _ _ _ => Iff.rfl) (fun w' a v _ _ _ => ⟨fun q => q.elim Or.inl (fun z => Or.inr ⟨by omega, z.2⟩), fun q => q.elim Or.inl (fun z => by
                by_cases e : a = t
                · exfalso; subst e; have := jsomeN.mpr z.2.2.2.2.1; rw [h61] at this; cases this
                · exact Or.inr ⟨by omega, z.2⟩)⟩) rfl) hf1
            · have _b61 := True.intro
              refine j_aload_n X (q := 65) d_S_takeForeignRead_64 rfl rfl ?_
              refine j_getR X (C := jR3) (T := jT3) (N := 5) (ci := 3) (j := 1) (q := 68) d_S_takeForeignRead_65 ju3 rfl rfl rfl (by decide) wl156 rfl (hC _ _ (by decide)) rfl ?_
              refine j_iload_n X (q := 69) d_S_takeForeignRead_68 rfl rfl ?_
              refine j_aald X (q := 70) d_S_takeForeignRead_69 rfl (by decide) rfl (by omega) (hC _ _ (by decide)) rfl ?_
              refine j_iload X (q := 72) d_S_takeForeignRead_70 rfl rfl ?_
              refine j_dup2 X (q := 73) d_S_takeForeignRead_72 rfl ?_
              refine j_iald X (q := 74) d_S_takeForeignRead_73 rfl (by decide) rfl (by omega) (hC _ _ (by show _ < 8; omega)) rfl (hz1.2.2.2 w t hw8 (by omega)) ?_
              refine j_iload X (q := 76) d_S_takeForeignRead_74 rfl rfl ?_
              refine j_callSN X (n := 1) d_S_takeForeignRead_76 (c_J_only hI b1 _) wl208 nl9 wl36 wl207 (by decide +kernel) ⟨rfl, rfl⟩ (by decide) rfl rfl (Nat.le_of_ble_eq_true rfl) rfl (q := 79) rfl (fun r76 τ76 e76 => ?_)
              obtain ⟨rfl, rfl⟩ := e76
              refine j_ior X (q := 80) d_S_takeForeignRead_79 rfl ?_
              refine j_iast X (q := 81) d_S_takeForeignRead_80 rfl (by decide) rfl (by omega) (hC _ _ (by show _ < 8; omega)) rfl ?_
              refine j_iinc X (q := 84) d_S_takeForeignRead_81 rfl (j_inc1 _) rfl ?_
              refine j_goto X (tgt := 33) d_S_takeForeignRead_84 (by decide) ?_
              rw [bI_or]
              refine ih (t + 1) _ (by omega) (by omega) (jZs_ext (jZs_rb hz1 (w := w) (t := t) (u := hyrd h r) hw8 (by omega)) (fun _ _ _ _ => Iff.rfl) (fun w' a v _ _ _ => ⟨fun q => ?_, fun q => ?_⟩) rfl) (fun g' h1 h2 => by rw [jxs_g _ _ _ _ _ h2, hf1 g' h1 h2])
              · rcases q with (q | z) | ⟨rfl, rfl, rfl⟩
                · exact Or.inl q
                · exact Or.inr ⟨by omega, z.2⟩
                · exact Or.inr ⟨by omega, rfl, h44, h50, jsomeN.mp h61, rfl⟩
              · rcases q with q | z
                · exact Or.inl (Or.inl q)
                · by_cases e : a = t
                  · exact Or.inr ⟨z.2.1, e, z.2.2.2.2.2⟩
                  · exact Or.inl (Or.inr ⟨by omega, z.2⟩)
  refine j_aload_n X (q := 1) d_S_takeForeignRead_0 rfl rfl ?_
  refine j_getR X (C := jR2) (T := jT2) (N := 12) (ci := 2) (j := 4) (q := 4) d_S_takeForeignRead_1 ju2 rfl rfl rfl (by decide) wl83 rfl (hC _ _ (by decide)) rfl ?_
  refine j_iload_n X (q := 5) d_S_takeForeignRead_4 rfl rfl ?_
  refine j_iald X (q := 6) d_S_takeForeignRead_5 rfl (by decide) rfl (by omega) (hC _ _ (by decide)) rfl (jHs_rd hs hr) ?_
  refine j_istore X (q := 8) d_S_takeForeignRead_6 (Nat.le_of_ble_eq_true rfl) rfl ?_
  refine j_aload_n X (q := 9) d_S_takeForeignRead_8 rfl rfl ?_
  refine j_getR X (C := jR2) (T := jT2) (N := 12) (ci := 2) (j := 5) (q := 12) d_S_takeForeignRead_9 ju2 rfl rfl rfl (by decide) wl86 rfl (hC _ _ (by decide)) rfl ?_
  refine j_iload_n X (q := 13) d_S_takeForeignRead_12 rfl rfl ?_
  refine j_iald X (q := 14) d_S_takeForeignRead_13 rfl (by decide) rfl (by omega) (hC _ _ (by decide)) rfl (jHs_ri hs hr) ?_
  refine j_istore X (q := 16) d_S_takeForeignRead_14 (Nat.le_of_ble_eq_true rfl) rfl ?_
  refine j_aload_n X (q := 17) d_S_takeForeignRead_16 rfl rfl ?_
  refine j_getR X (C := jR3) (T := jT3) (N := 5) (ci := 3) (j := 0) (q := 20) d_S_takeForeignRead_17 ju3 rfl rfl rfl (by decide) wl155 rfl (hC _ _ (by decide)) rfl ?_
  refine j_iload X (q := 22) d_S_takeForeignRead_20 rfl rfl ?_
  refine j_dup2 X (q := 23) d_S_takeForeignRead_22 rfl ?_
  refine j_iald X (q := 24) d_S_takeForeignRead_23 rfl (by decide) rfl (by omega) (hC _ _ (by decide)) rfl (hz.2.2.1 _ b1) ?_
  refine j_iload_n X (q := 25) d_S_takeForeignRead_24 rfl rfl ?_
  refine j_callSN X (n := 1) d_S_takeForeignRead_25 (c_J_only hI hw8 _) wl208 nl9 wl36 wl207 (by decide +kernel) ⟨rfl, rfl⟩ (by decide) rfl rfl (Nat.le_of_ble_eq_true rfl) rfl (q := 28) rfl (fun r25 τ25 e25 => ?_)
  obtain ⟨rfl, rfl⟩ := e25
  refine j_ior X (q := 29) d_S_takeForeignRead_28 rfl ?_
  refine j_iast X (q := 30) d_S_takeForeignRead_29 rfl (by decide) rfl (by omega) (hC _ _ (by decide)) rfl ?_
  refine j_iconst X (v := (nI 0)) (q := 31) d_S_takeForeignRead_30 (by decide +kernel) rfl ?_
  refine j_istore X (q := 33) d_S_takeForeignRead_31 (Nat.le_of_ble_eq_true rfl) rfl ?_
  rw [bI_or]
  refine jxW.to (L' := [some (.inr (30, 0)), some (.inr (1, 0)), some (.inl (nI r)), some (.inl (nI w)), some (.inl (nI (hyrd h r))), some (.inl (nI (hyri h r))), some (.inl (nI 0))]) (by simp [jfg]) ?_
  exact K 9 0 _ (by omega) (by omega) (jZs_ext (jZs_bf hz b1) (fun _ _ _ _ => Iff.rfl) (fun w' a v _ _ _ => ⟨Or.inl, fun q => q.elim id (fun z => by omega)⟩) rfl) (fun g' h1 h2 => by rw [jxs_g _ _ _ _ _ h1])
/-- what read r asks for: who before whom, who must not be cut off, whether it can be at all -/
def jbfr (h : jH) (C : Nat → Bool) (r t u : Nat) : Prop := hyro h r = none ∧ ((hyrv h r = none ∧ t ≠ hyrd h r ∧ C t = true ∧ hylt h t (hyri h r) ≠ none ∧ u = hyrd h r) ∨ ∃ v, hyrv h r = some v ∧ hyS h (hyW h v) = 2 ∧ hylt h (hyW h v) (hyI h v) = some v ∧ t = hyrd h r ∧ u = hyW h v)
def jrbr (h : jH) (r w t u : Nat) : Prop := hyro h r = none ∧ ∃ v, hyrv h r = some v ∧ hyS h (hyW h v) = 2 ∧ hylt h (hyW h v) (hyI h v) = some v ∧ w = hyW h v ∧ t ≠ hyrd h r ∧ t ≠ w ∧ hylt h t (hyri h r) ≠ none ∧ u = hyrd h r
def jsdr (h : jH) (r : Nat) : Prop := (∀ o, hyro h r = some o → hyrv h r = some o) ∧ (hyro h r = none → ∀ v, hyrv h r = some v → hyS h (hyW h v) = 2 ∧ hylt h (hyW h v) (hyI h v) = some v)
theorem vI_inj {o o' : Option Nat} (h : ∀ v, o = some v → v < 2 ^ 31) (h' : ∀ v, o' = some v → v < 2 ^ 31) : vI o = vI o' ↔ o = o' := by
  cases o with
  | none =>
    cases o' with
    | none => simp
    | some v => exact ⟨fun q => absurd q.symm (nI_ne_m1 (h' v rfl)), fun q => by cases q⟩
  | some v =>
    cases o' with
    | none => exact ⟨fun q => absurd q (nI_ne_m1 (h v rfl)), fun q => by cases q⟩
    | some w =>
      show nI v = nI w ↔ _
      rw [nI_eq (h v rfl) (h' w rfl), Option.some.injEq]
theorem jZs_sd {C : Nat → Bool} {bf : Nat → Nat → Prop} {rb : Nat → Nat → Nat → Prop} {sd : Bool} {σ : jxM} (h : jZs C bf rb sd σ) (b : Bool) : jZs C bf rb b (jxs σ 30 0 4 (jB b)) := by
  refine ⟨by simp [jxs_at]; exact h.1, by simp [jxs_at], fun a ha => by rw [jxs_g _ _ _ _ _ (by decide)]; exact h.2.2.1 a ha, fun w a hw ha => by rw [jxs_g _ _ _ _ _ (by decide)]; exact h.2.2.2 w a hw ha⟩
set_option maxRecDepth 100000 in
set_option maxHeartbeats 4000000 in
theorem c_S_takeRead {l : Launch} {Θ : jxT} (hI : jxI Θ) (hC : ∀ g r, r < jrwJ g → Θ.2.2.2 g r) {h : jH} {σ : jxM} (hw : jHw h) (hs : jHs h σ) {C : Nat → Bool} {bf : Nat → Nat → Prop} {rb : Nat → Nat → Nat → Prop} {sd : Bool} (hz : jZs C bf rb sd σ) {r : Nat} (hr : r < hyR h) : jxMet l y_S_takeRead b_S_takeRead 4 none (jrm 4) Θ [.inr (30, 0), .inr (1, 0), .inl (nI r)] σ (fun r' σ' => r' = none ∧ jZs C (fun t u => bf t u ∨ jbfr h C r t u) (fun w t u => rb w t u ∨ jrbr h r w t u) (sd && jd (jsdr h r)) σ' ∧ ∀ g', g' ≠ 30 → g' ≠ 31 → g' ≠ 33 → σ' g' = σ g') := by
  refine jxMet.of (own := "HistoryJudge$SerialSearch") hI (by decide) rfl (Nat.le_of_ble_eq_true rfl) (fun Γ X => ?_)
  show jxW Γ Θ (fun r' σ' => r' = none ∧ jZs C (fun t u => bf t u ∨ jbfr h C r t u) (fun w t u => rb w t u ∨ jrbr h r w t u) (sd && jd (jsdr h r)) σ' ∧ ∀ g', g' ≠ 30 → g' ≠ 31 → g' ≠ 33 → σ' g' = σ g') 0 [some (.inr (30, 0)), some (.inr (1, 0)), some (.inl (nI r)), none] [] σ
  have bV := jHw_V hw
  have bR := jHw_R hw
  have b1 := jHw_rd hw hr
  have b2 := jHw_ri hw hr
  have br1 : ∀ v, hyrv h r = some v → v < 2 ^ 31 := fun v hv => by have := (jHw_rv hw hr hv).1; omega
  have br2 : ∀ v, hyro h r = some v → v < 2 ^ 31 := fun v hv => by have := jHw_ro hw hr hv; omega
  have bmo := vI_m1 (hyro h r) br2
  have bmv := vI_m1 (hyrv h r) br1
  refine j_aload_n X (q := 1) d_S_takeRead_0 rfl rfl ?_
  refine j_getR X (C := jR2) (T := jT2) (N := 12) (ci := 2) (j := 6) (q := 4) d_S_takeRead_1 ju2 rfl rfl rfl (by decide) wl89 rfl (hC _ _ (by decide)) rfl ?_
  refine j_iload_n X (q := 5) d_S_takeRead_4 rfl rfl ?_
  refine j_iald X (q := 6) d_S_takeRead_5 rfl (by decide) rfl (by omega) (hC _ _ (by decide)) rfl (jHs_rv hs hr) ?_
  refine j_istore_n X (j := 3) (q := 7) d_S_takeRead_6 rfl (Nat.le_of_ble_eq_true rfl) rfl ?_
  refine j_aload_n X (q := 8) d_S_takeRead_7 rfl rfl ?_
  refine j_getR X (C := jR2) (T := jT2) (N := 12) (ci := 2) (j := 7) (q := 11) d_S_takeRead_8 ju2 rfl rfl rfl (by decide) wl91 rfl (hC _ _ (by decide)) rfl ?_
  refine j_iload_n X (q := 12) d_S_takeRead_11 rfl rfl ?_
  refine j_iald X (q := 13) d_S_takeRead_12 rfl (by decide) rfl (by omega) (hC _ _ (by decide)) rfl (jHs_ro hs hr) ?_
  refine j_iconst X (v := (-1)) (q := 14) d_S_takeRead_13 (by decide +kernel) rfl ?_
  refine j_icmp_eq X (tgt := 46) (q := 17) d_S_takeRead_14 (by decide) rfl (fun h14 => ?_) (fun h14 => ?_)
  · have _b14 := True.intro
    have eo := bmo.mp h14
    refine j_iload_n X (q := 47) d_S_takeRead_46 rfl rfl ?_
    refine j_iconst X (v := (-1)) (q := 48) d_S_takeRead_47 (by decide +kernel) rfl ?_
    refine j_icmp_ne X (tgt := 71) (q := 51) d_S_takeRead_48 (by decide) rfl (fun h48 => ?_) (fun h48 => ?_)
    · have _b48 := True.intro
      obtain ⟨v, ev⟩ : ∃ v, hyrv h r = some v := by
        cases e : hyrv h r with
        | some v => exact ⟨v, rfl⟩
        | none => exact absurd (bmv.mpr e) h48
      have b0 := (jHw_rv hw hr ev).1
      have b3 := jHw_W hw b0
      refine j_aload_n X (q := 72) d_S_takeRead_71 rfl rfl ?_
      refine j_aload_n X (q := 73) d_S_takeRead_72 rfl rfl ?_
      refine j_getR X (C := jR2) (T := jT2) (N := 12) (ci := 2) (j := 1) (q := 76) d_S_takeRead_73 ju2 rfl rfl rfl (by decide) wl77 rfl (hC _ _ (by decide)) rfl ?_
      refine j_iload_n X (q := 77) d_S_takeRead_76 rfl rfl ?_
      refine j_iald X (j := v) (q := 78) d_S_takeRead_77 rfl (by decide) (show vI (hyrv h r) = nI v by rw [ev]; rfl) (by omega) (hC _ _ (by decide)) rfl (jHs_W hs b0) ?_
      refine j_callV X (n := 1) (C := jR2) (T := jT2) (N := 12) d_S_takeRead_78 (c_H_isCommitted hI (fun g r q => hC g r (jHJ q)) hw hs b3) rfl rfl (hC _ _ (by decide)) wl301 wl210 wl211 wl37 wl212 (by decide +kernel) ⟨rfl, rfl⟩ (by decide) rfl rfl (Nat.le_of_ble_eq_true rfl) rfl (q := 81) rfl (fun r78 τ78 e78 => ?_)
      obtain ⟨rfl, rfl⟩ := e78
      refine j_bif_eq X (tgt := 107) (q := 84) d_S_takeRead_81 (by decide) rfl (fun h81 => ?_) (fun h81 => ?_)
      · have _b81 := True.intro
        refine j_aload_n X (q := 108) d_S_takeRead_107 rfl rfl ?_
        refine j_iconst X (v := (nI 0)) (q := 109) d_S_takeRead_108 (by decide +kernel) rfl ?_
        refine j_putI X (C := jR3) (T := jT3) (N := 5) (ci := 3) (j := 4) (q := 112) d_S_takeRead_109 ju3 rfl rfl jt3 jt3_ok jn3 rfl (by decide) wl160 rfl (hC _ _ (by decide)) rfl rfl (ty := .boolean) rfl (by decide +kernel) (by decide +kernel) ?_
        refine j_vret X d_S_takeRead_112 ?_
        have hsd : jd (jsdr h r) = false := jd_no.mpr (fun q => by
          have := q.2 eo v ev
          rw [decide_eq_true this.1] at h81; cases h81)
        have e0 : nI 0 = jB (sd && jd (jsdr h r)) := by rw [hsd, Bool.and_false]; rfl
        rw [e0]
        exact ⟨rfl, jZs_ext (jZs_sd hz _) (fun t u _ _ => ⟨Or.inl, fun q => q.elim id (fun z => by
          rcases z.2 with y | ⟨w, y1, y2, y3, _⟩
          · rw [ev] at y; cases y.1
          · rw [ev] at y1; cases y1; rw [decide_eq_true y2] at h81; cases h81)⟩) (fun w t u _ _ _ => ⟨Or.inl, fun q => q.elim id (fun z => by
          obtain ⟨w', y1, y2, y3, _⟩ := z.2
          rw [ev] at y1; cases y1; rw [decide_eq_true y2] at h81; cases h81)⟩) rfl, fun g' h1 _ _ => jxs_g _ _ _ _ _ h1⟩
      · have _b81 := True.intro
        refine j_aload_n X (q := 85) d_S_takeRead_84 rfl rfl ?_
        refine j_iload_n X (q := 86) d_S_takeRead_85 rfl rfl ?_
        refine jxW.cast rfl (show _ = [.inl (nI v), .inr (1, 0)] by rw [ev]; rfl) rfl ?_
        refine j_callV X (n := 1) (C := jR2) (T := jT2) (N := 12) d_S_takeRead_86 (c_H_isFinal hI (fun g r q => hC g r (jHJ q)) hw hs b0) rfl rfl (hC _ _ (by decide)) wl312 wl268 wl269 wl37 wl270 (by decide +kernel) ⟨rfl, rfl⟩ (by decide) rfl rfl (Nat.le_of_ble_eq_true rfl) rfl (q := 89) rfl (fun r86 τ86 e86 => ?_)
        obtain ⟨rfl, rfl⟩ := e86
        refine j_bif_eq X (tgt := 107) (q := 92) d_S_takeRead_89 (by decide) rfl (fun h89 => ?_) (fun h89 => ?_)
        · have _b89 := True.intro
          refine j_aload_n X (q := 108) d_S_takeRead_107 rfl rfl ?_
          refine j_iconst X (v := (nI 0)) (q := 109) d_S_takeRead_108 (by decide +kernel) rfl ?_
          refine j_putI X (C := jR3) (T := jT3) (N := 5) (ci := 3) (j := 4) (q := 112) d_S_takeRead_109 ju3 rfl rfl jt3 jt3_ok jn3 rfl (by decide) wl160 rfl (hC _ _ (by decide)) rfl rfl (ty := .boolean) rfl (by decide +kernel) (by decide +kernel) ?_
          refine j_vret X d_S_takeRead_112 ?_
          have hsd : jd (jsdr h r) = false := jd_no.mpr (fun q => by
            have := q.2 eo v ev
            rw [decide_eq_true this.2] at h89; cases h89)
          have e0 : nI 0 = jB (sd && jd (jsdr h r)) := by rw [hsd, Bool.and_false]; rfl
          rw [e0]
          exact ⟨rfl, jZs_ext (jZs_sd hz _) (fun t u _ _ => ⟨Or.inl, fun q => q.elim id (fun z => by
            rcases z.2 with y | ⟨w, y1, y2, y3, _⟩
            · rw [ev] at y; cases y.1
            · rw [ev] at y1; cases y1; rw [decide_eq_true y3] at h89; cases h89)⟩) (fun w t u _ _ _ => ⟨Or.inl, fun q => q.elim id (fun z => by
            obtain ⟨w', y1, y2, y3, _⟩ := z.2
            rw [ev] at y1; cases y1; rw [decide_eq_true y3] at h89; cases h89)⟩) rfl, fun g' h1 _ _ => jxs_g _ _ _ _ _ h1⟩
        · have _b89 := True.intro
          refine j_aload_n X (q := 93) d_S_takeRead_92 rfl rfl ?_
          refine j_aload_n X (q := 94) d_S_takeRead_93 rfl rfl ?_
          refine j_iload_n X (q := 95) d_S_takeRead_94 rfl rfl ?_
          refine j_aload_n X (q := 96) d_S_takeRead_95 rfl rfl ?_
          refine j_getR X (C := jR2) (T := jT2) (N := 12) (ci := 2) (j := 1) (q := 99) d_S_takeRead_96 ju2 rfl rfl rfl (by decide) wl77 rfl (hC _ _ (by decide)) rfl ?_
          refine j_iload_n X (q := 100) d_S_takeRead_99 rfl rfl ?_
          refine j_iald X (j := v) (q := 101) d_S_takeRead_100 rfl (by decide) (show vI (hyrv h r) = nI v by rw [ev]; rfl) (by omega) (hC _ _ (by decide)) rfl (jHs_W hs b0) ?_
          refine j_callV X (n := 3) (C := jR3) (T := jT3) (N := 5) d_S_takeRead_101 (c_S_takeForeignRead hI hC hw hs hz hr b3) rfl rfl (hC _ _ (by decide)) wl313 wl314 wl11 wl41 wl315 (by decide +kernel) ⟨rfl, rfl⟩ (by decide) rfl rfl (Nat.le_of_ble_eq_true rfl) rfl (q := 104) rfl (fun r101 τ101 e101 => ?_)
          obtain ⟨rfl, hz2, hf2⟩ := e101
          refine j_goto X (tgt := 112) d_S_takeRead_104 (by decide) ?_
          refine j_vret X d_S_takeRead_112 ?_
          have hsd : jd (jsdr h r) = true := jd_iff.mpr ⟨fun o q => (by rw [eo] at q; cases q), fun _ w q => by rw [ev] at q; cases q; exact ⟨by simpa using h81, by simpa using h89⟩⟩
          refine ⟨rfl, jZs_ext hz2 (fun t u _ _ => ⟨fun q => q.elim Or.inl (fun z => Or.inr ⟨eo, Or.inr ⟨v, ev, by simpa using h81, by simpa using h89, z⟩⟩), fun q => q.elim Or.inl (fun z => ?_)⟩) (fun w t u _ _ _ => ⟨fun q => q.elim Or.inl (fun z => Or.inr ⟨eo, v, ev, by simpa using h81, by simpa using h89, z.1, z.2.1, by rw [z.1]; exact z.2.2.1, z.2.2.2⟩), fun q => q.elim Or.inl (fun z => ?_)⟩) (by rw [hsd, Bool.and_true]), fun g' _ h2 h3 => hf2 g' h2 h3⟩
          · rcases z.2 with y | ⟨w, y1, y2, y3, y4⟩
            · rw [ev] at y; cases y.1
            · rw [ev] at y1; cases y1; exact Or.inr y4
          · obtain ⟨w', y1, y2, y3, y4, y5, y6, y7⟩ := z.2
            rw [ev] at y1; cases y1
            exact Or.inr ⟨y4, y5, by rw [← y4]; exact y6, y7⟩
    · have _b48 := True.intro
      have ev := bmv.mp h48
      refine j_aload_n X (q := 52) d_S_takeRead_51 rfl rfl ?_
      refine j_aload_n X (q := 53) d_S_takeRead_52 rfl rfl ?_
      refine j_aload_n X (q := 54) d_S_takeRead_53 rfl rfl ?_
      refine j_getR X (C := jR2) (T := jT2) (N := 12) (ci := 2) (j := 4) (q := 57) d_S_takeRead_54 ju2 rfl rfl rfl (by decide) wl83 rfl (hC _ _ (by decide)) rfl ?_
      refine j_iload_n X (q := 58) d_S_takeRead_57 rfl rfl ?_
      refine j_iald X (q := 59) d_S_takeRead_58 rfl (by decide) rfl (by omega) (hC _ _ (by decide)) rfl (jHs_rd hs hr) ?_
      refine j_aload_n X (q := 60) d_S_takeRead_59 rfl rfl ?_
      refine j_getR X (C := jR2) (T := jT2) (N := 12) (ci := 2) (j := 5) (q := 63) d_S_takeRead_60 ju2 rfl rfl rfl (by decide) wl86 rfl (hC _ _ (by decide)) rfl ?_
      refine j_iload_n X (q := 64) d_S_takeRead_63 rfl rfl ?_
      refine j_iald X (q := 65) d_S_takeRead_64 rfl (by decide) rfl (by omega) (hC _ _ (by decide)) rfl (jHs_ri hs hr) ?_
      refine j_callV X (n := 3) (C := jR3) (T := jT3) (N := 5) d_S_takeRead_65 (c_S_takeFirstRead hI hC hw hs hz b1 b2) rfl rfl (hC _ _ (by decide)) wl305 wl306 wl10 wl41 wl307 (by decide +kernel) ⟨rfl, rfl⟩ (by decide) rfl rfl (Nat.le_of_ble_eq_true rfl) rfl (q := 68) rfl (fun r65 τ65 e65 => ?_)
      obtain ⟨rfl, hz2, hf2⟩ := e65
      refine j_goto X (tgt := 112) d_S_takeRead_68 (by decide) ?_
      refine j_vret X d_S_takeRead_112 ?_
      have hsd : jd (jsdr h r) = true := jd_iff.mpr ⟨fun o q => (by rw [eo] at q; cases q), fun _ w q => (by rw [ev] at q; cases q)⟩
      refine ⟨rfl, jZs_ext hz2 (fun t u _ _ => ⟨fun q => q.elim Or.inl (fun z => Or.inr ⟨eo, Or.inl ⟨ev, z⟩⟩), fun q => q.elim Or.inl (fun z => ?_)⟩) (fun w t u _ _ _ => ⟨Or.inl, fun q => q.elim id (fun z => ?_)⟩) (by rw [hsd, Bool.and_true]), fun g' _ h2 _ => hf2 g' h2⟩
      · rcases z.2 with y | ⟨w, y1, _⟩
        · exact Or.inr y.2
        · rw [ev] at y1; cases y1
      · obtain ⟨w', y1, _⟩ := z.2
        rw [ev] at y1; cases y1
  · have _b14 := True.intro
    have eo : hyro h r ≠ none := fun q => h14 (bmo.mpr q)
    refine j_aload_n X (q := 18) d_S_takeRead_17 rfl rfl ?_
    refine j_aload_n X (q := 19) d_S_takeRead_18 rfl rfl ?_
    refine j_getI X (C := jR3) (T := jT3) (N := 5) (ci := 3) (j := 4) (q := 22) d_S_takeRead_19 ju3 rfl rfl rfl (by decide) wl160 rfl (hC _ _ (by decide)) rfl hz.2.1 ?_
    refine j_bif_eq X (tgt := 39) (q := 25) d_S_takeRead_22 (by decide) rfl (fun h22 => ?_) (fun h22 => ?_)
    · have _b22 := True.intro
      have hb : nI 0 = jB (sd && jd (jsdr h r)) := by rw [h22]; rfl
      refine j_iconst X (v := (nI 0)) (q := 40) d_S_takeRead_39 (by decide +kernel) rfl ?_
      refine jxW.cast rfl (show _ = [.inl (jB (sd && jd (jsdr h r))), .inr (30, 0)] by rw [← hb]) rfl ?_
      refine j_putI X (C := jR3) (T := jT3) (N := 5) (ci := 3) (j := 4) (q := 43) d_S_takeRead_40 ju3 rfl rfl jt3 jt3_ok jn3 rfl (by decide) wl160 rfl (hC _ _ (by decide)) rfl rfl (ty := .boolean) rfl (jB_narrow _) (jB_fits _) ?_
      refine j_goto X (tgt := 112) d_S_takeRead_43 (by decide) ?_
      refine j_vret X d_S_takeRead_112 ?_
      exact ⟨rfl, jZs_ext (jZs_sd hz _) (fun t u _ _ => ⟨Or.inl, fun q => q.elim id (fun z => absurd z.1 eo)⟩) (fun w t u _ _ _ => ⟨Or.inl, fun q => q.elim id (fun z => absurd z.1 eo)⟩) rfl, fun g' h1 _ _ => jxs_g _ _ _ _ _ h1⟩
    · have _b22 := True.intro
      refine j_iload_n X (q := 26) d_S_takeRead_25 rfl rfl ?_
      refine j_aload_n X (q := 27) d_S_takeRead_26 rfl rfl ?_
      refine j_getR X (C := jR2) (T := jT2) (N := 12) (ci := 2) (j := 7) (q := 30) d_S_takeRead_27 ju2 rfl rfl rfl (by decide) wl91 rfl (hC _ _ (by decide)) rfl ?_
      refine j_iload_n X (q := 31) d_S_takeRead_30 rfl rfl ?_
      refine j_iald X (q := 32) d_S_takeRead_31 rfl (by decide) rfl (by omega) (hC _ _ (by decide)) rfl (jHs_ro hs hr) ?_
      refine j_icmp_ne X (tgt := 39) (q := 35) d_S_takeRead_32 (by decide) rfl (fun h32 => ?_) (fun h32 => ?_)
      · have _b32 := True.intro
        have hb : nI 0 = jB (sd && jd (jsdr h r)) := by
          rw [jd_no.mpr (fun q => h32 (by
            obtain ⟨o, eo2⟩ := Option.ne_none_iff_exists'.mp eo
            rw [eo2, q.1 o eo2])), Bool.and_false]
          rfl
        refine j_iconst X (v := (nI 0)) (q := 40) d_S_takeRead_39 (by decide +kernel) rfl ?_
        refine jxW.cast rfl (show _ = [.inl (jB (sd && jd (jsdr h r))), .inr (30, 0)] by rw [← hb]) rfl ?_
        refine j_putI X (C := jR3) (T := jT3) (N := 5) (ci := 3) (j := 4) (q := 43) d_S_takeRead_40 ju3 rfl rfl jt3 jt3_ok jn3 rfl (by decide) wl160 rfl (hC _ _ (by decide)) rfl rfl (ty := .boolean) rfl (jB_narrow _) (jB_fits _) ?_
        refine j_goto X (tgt := 112) d_S_takeRead_43 (by decide) ?_
        refine j_vret X d_S_takeRead_112 ?_
        exact ⟨rfl, jZs_ext (jZs_sd hz _) (fun t u _ _ => ⟨Or.inl, fun q => q.elim id (fun z => absurd z.1 eo)⟩) (fun w t u _ _ _ => ⟨Or.inl, fun q => q.elim id (fun z => absurd z.1 eo)⟩) rfl, fun g' h1 _ _ => jxs_g _ _ _ _ _ h1⟩
      · have _b32 := True.intro
        have hb : nI 1 = jB (sd && jd (jsdr h r)) := by
          have e := (vI_inj br1 br2).mp h32
          rw [h22, jd_iff.mpr ⟨fun o ho => by rw [e]; exact ho, fun q => absurd q eo⟩]
          rfl
        refine j_iconst X (v := (nI 1)) (q := 36) d_S_takeRead_35 (by decide +kernel) rfl ?_
        refine j_goto X (tgt := 40) d_S_takeRead_36 (by decide) ?_
        refine jxW.cast rfl (show _ = [.inl (jB (sd && jd (jsdr h r))), .inr (30, 0)] by rw [← hb]) rfl ?_
        refine j_putI X (C := jR3) (T := jT3) (N := 5) (ci := 3) (j := 4) (q := 43) d_S_takeRead_40 ju3 rfl rfl jt3 jt3_ok jn3 rfl (by decide) wl160 rfl (hC _ _ (by decide)) rfl rfl (ty := .boolean) rfl (jB_narrow _) (jB_fits _) ?_
        refine j_goto X (tgt := 112) d_S_takeRead_43 (by decide) ?_
        refine j_vret X d_S_takeRead_112 ?_
        exact ⟨rfl, jZs_ext (jZs_sd hz _) (fun t u _ _ => ⟨Or.inl, fun q => q.elim id (fun z => absurd z.1 eo)⟩) (fun w t u _ _ _ => ⟨Or.inl, fun q => q.elim id (fun z => absurd z.1 eo)⟩) rfl, fun g' h1 _ _ => jxs_g _ _ _ _ _ h1⟩
end
section
/-! The search for serial orders: all reads taken; who may follow; what is ended. -/
def jcmt (h : jH) : Nat → Bool := fun t => decide (hyS h t = 2)
def jbfR (h : jH) (n t u : Nat) : Prop := ∃ r, r < n ∧ hyS h (hyrd h r) = 2 ∧ jbfr h (jcmt h) r t u
def jrbR (h : jH) (n w t u : Nat) : Prop := ∃ r, r < n ∧ hyS h (hyrd h r) = 2 ∧ jrbr h r w t u
def jsdR (h : jH) (n : Nat) : Prop := ∀ r, r < n → hyS h (hyrd h r) = 2 → jsdr h r
theorem jsdR_succ {h : jH} {n : Nat} (hc : hyS h (hyrd h n) = 2) : (jd (jsdR h n) && jd (jsdr h n)) = jd (jsdR h (n + 1)) := by
  rw [Bool.eq_iff_iff, Bool.and_eq_true, jd_iff, jd_iff, jd_iff]
  constructor
  · rintro ⟨h1, h2⟩ r hr hc'
    by_cases e : r = n
    · subst e; exact h2
    · exact h1 r (by omega) hc'
  · exact fun q => ⟨fun r hr hc' => q r (by omega) hc', q n (by omega) hc⟩
theorem jsdR_skip {h : jH} {n : Nat} (hc : ¬ hyS h (hyrd h n) = 2) : jd (jsdR h n) = jd (jsdR h (n + 1)) := by
  refine jd_ext ⟨fun q r hr hc' => ?_, fun q r hr hc' => q r (by omega) hc'⟩
  by_cases e : r = n
  · subst e; exact absurd hc' hc
  · exact q r (by omega) hc'
set_option maxRecDepth 100000 in
set_option maxHeartbeats 4000000 in
theorem c_S_takeReads {l : Launch} {Θ : jxT} (hI : jxI Θ) (hC : ∀ g r, r < jrwJ g → Θ.2.2.2 g r) {h : jH} {σ : jxM} (hw : jHw h) (hs : jHs h σ)  : jxMet l y_S_takeReads b_S_takeReads 3 none (jrm 5) Θ [.inr (30, 0), .inr (1, 0)] σ (fun r' σ' => r' = none ∧ jZs (jcmt h) (jbfR h (hyR h)) (jrbR h (hyR h)) (jd (jsdR h (hyR h))) σ' ∧ ∀ g', g' ≠ 30 → g' ≠ 31 → g' ≠ 33 → σ' g' = σ g') := by
  refine jxMet.of (own := "HistoryJudge$SerialSearch") hI (by decide) rfl (Nat.le_of_ble_eq_true rfl) (fun Γ X => ?_)
  show jxW Γ Θ (fun r' σ' => r' = none ∧ jZs (jcmt h) (jbfR h (hyR h)) (jrbR h (hyR h)) (jd (jsdR h (hyR h))) σ' ∧ ∀ g', g' ≠ 30 → g' ≠ 31 → g' ≠ 33 → σ' g' = σ g') 0 [some (.inr (30, 0)), some (.inr (1, 0)), none] [] σ
  have bR := jHw_R hw
  have KR : ∀ (N : Nat) (r : Nat) (σ1 : jxM), 61 - r < N → r ≤ hyR h → jZs (jcmt h) (jbfR h r) (jrbR h r) (jd (jsdR h r)) σ1 → (∀ g', g' ≠ 30 → g' ≠ 31 → g' ≠ 33 → σ1 g' = σ g') → jxW Γ Θ (fun r' σ' => r' = none ∧ jZs (jcmt h) (jbfR h (hyR h)) (jrbR h (hyR h)) (jd (jsdR h (hyR h))) σ' ∧ ∀ g', g' ≠ 30 → g' ≠ 31 → g' ≠ 33 → σ' g' = σ g') 47 [some (.inr (30, 0)), some (.inr (1, 0)), some (.inl (nI r))] [] σ1 := by
    intro N
    induction N with
    | zero => intro r σ1 hn; exact absurd hn (Nat.not_lt_zero _)
    | succ N ih =>
      intro r σ1 hn hr hz1 hf1
      have hs1 : jHs h σ1 := jHs_keep hs (fun g hg => hf1 g (by omega) (by omega) (by omega))
      refine j_iload_n X (q := 48) d_S_takeReads_47 rfl rfl ?_
      refine j_aload_n X (q := 49) d_S_takeReads_48 rfl rfl ?_
      refine j_getI X (C := jR2) (T := jT2) (N := 12) (ci := 2) (j := 8) (q := 52) d_S_takeReads_49 ju2 rfl rfl rfl (by decide) wl95 rfl (hC _ _ (by decide)) rfl (jHs_R hs1) ?_
      refine j_ncmp_ge X (tgt := 80) (q := 55) d_S_takeReads_52 (by decide) rfl (by omega) (by omega) (fun h52 => ?_) (fun h52 => ?_)
      · have _b52 := True.intro
        refine j_vret X d_S_takeReads_80 ?_
        have er : r = hyR h := by omega
        subst er
        exact ⟨rfl, hz1, hf1⟩
      · have _b52 := True.intro
        refine j_aload_n X (q := 56) d_S_takeReads_55 rfl rfl ?_
        refine j_aload_n X (q := 57) d_S_takeReads_56 rfl rfl ?_
        refine j_getR X (C := jR2) (T := jT2) (N := 12) (ci := 2) (j := 4) (q := 60) d_S_takeReads_57 ju2 rfl rfl rfl (by decide) wl83 rfl (hC _ _ (by decide)) rfl ?_
        refine j_iload_n X (q := 61) d_S_takeReads_60 rfl rfl ?_
        refine j_iald X (q := 62) d_S_takeReads_61 rfl (by decide) rfl (by omega) (hC _ _ (by decide)) rfl (jHs_rd hs1 (by omega)) ?_
        refine j_callV X (n := 1) (C := jR2) (T := jT2) (N := 12) d_S_takeReads_62 (c_H_isCommitted hI (fun g r q => hC g r (jHJ q)) hw hs1 (t := hyrd h r) (jHw_rd hw (by omega))) rfl rfl (hC _ _ (by decide)) wl301 wl210 wl211 wl37 wl212 (by decide +kernel) ⟨rfl, rfl⟩ (by decide) rfl rfl (Nat.le_of_ble_eq_true rfl) rfl (q := 65) rfl (fun r62 τ62 e62 => ?_)
        obtain ⟨rfl, rfl⟩ := e62
        refine j_bif_eq X (tgt := 74) (q := 68) d_S_takeReads_65 (by decide) rfl (fun h65 => ?_) (fun h65 => ?_)
        · have _b65 := True.intro
          refine j_iinc X (q := 77) d_S_takeReads_74 rfl (j_inc1 _) rfl ?_
          refine j_goto X (tgt := 47) d_S_takeReads_77 (by decide) ?_
          have hnc : ¬ hyS h (hyrd h r) = 2 := by simpa using h65
          exact ih (r + 1) σ1 (by omega) (by omega) (jZs_ext hz1 (fun t u _ _ => by unfold jbfR; rw [jex_succ]; exact ⟨Or.inl, fun q => q.elim id (fun z => absurd z.1 hnc)⟩) (fun w t u _ _ _ => by unfold jrbR; rw [jex_succ]; exact ⟨Or.inl, fun q => q.elim id (fun z => absurd z.1 hnc)⟩) (jsdR_skip hnc)) hf1
        · have _b65 := True.intro
          refine j_aload_n X (q := 69) d_S_takeReads_68 rfl rfl ?_
          refine j_aload_n X (q := 70) d_S_takeReads_69 rfl rfl ?_
          refine j_iload_n X (q := 71) d_S_takeReads_70 rfl rfl ?_
          refine j_callV X (n := 2) (C := jR3) (T := jT3) (N := 5) d_S_takeReads_71 (c_S_takeRead hI hC hw hs1 hz1 (r := r) (by omega)) rfl rfl (hC _ _ (by decide)) wl302 wl303 wl9 wl41 wl304 (by decide +kernel) ⟨rfl, rfl⟩ (by decide) rfl rfl (Nat.le_of_ble_eq_true rfl) rfl (q := 74) rfl (fun r71 τ71 e71 => ?_)
          obtain ⟨rfl, hz2, hf2⟩ := e71
          refine j_iinc X (q := 77) d_S_takeReads_74 rfl (j_inc1 _) rfl ?_
          refine j_goto X (tgt := 47) d_S_takeReads_77 (by decide) ?_
          have hcc : hyS h (hyrd h r) = 2 := by simpa using h65
          exact ih (r + 1) _ (by omega) (by omega) (jZs_ext hz2 (fun t u _ _ => by unfold jbfR; rw [jex_succ]; simp [hcc]) (fun w t u _ _ _ => by unfold jrbR; rw [jex_succ]; simp [hcc]) (jsdR_succ hcc)) (fun g' h1 h2 h3 => by rw [hf2 g' h1 h2 h3, hf1 g' h1 h2 h3])
  have K : ∀ (N : Nat) (t : Nat) (σ1 : jxM), 8 - t < N → t ≤ 8 → σ1 30 0 3 = bI (jcmt h) → σ1 30 0 4 = jB true → (∀ a, a < 8 → σ1 31 0 a = nI 0) → (∀ w a, w < t → a < 8 → σ1 33 w a = nI 0) → (∀ g', g' ≠ 30 → g' ≠ 31 → g' ≠ 33 → σ1 g' = σ g') → jxW Γ Θ (fun r' σ' => r' = none ∧ jZs (jcmt h) (jbfR h (hyR h)) (jrbR h (hyR h)) (jd (jsdR h (hyR h))) σ' ∧ ∀ g', g' ≠ 30 → g' ≠ 31 → g' ≠ 33 → σ' g' = σ g') 23 [some (.inr (30, 0)), some (.inr (1, 0)), some (.inl (nI t))] [] σ1 := by
    intro N
    induction N with
    | zero => intro t σ1 hn; exact absurd hn (Nat.not_lt_zero _)
    | succ N ih =>
      intro t σ1 hn ht k1 k2 k3 k4 hf1
      refine j_iload_n X (q := 24) d_S_takeReads_23 rfl rfl ?_
      refine j_bipush X (v := (nI 8)) (q := 26) d_S_takeReads_24 (by decide +kernel) rfl ?_
      refine j_ncmp_ge X (tgt := 45) (q := 29) d_S_takeReads_26 (by decide) rfl (by omega) (by omega) (fun h26 => ?_) (fun h26 => ?_)
      · have _b26 := True.intro
        refine j_iconst X (v := (nI 0)) (q := 46) d_S_takeReads_45 (by decide +kernel) rfl ?_
        refine j_istore_n X (j := 2) (q := 47) d_S_takeReads_46 rfl (Nat.le_of_ble_eq_true rfl) rfl ?_
        have et : t = 8 := by omega
        subst et
        refine jxW.to (L' := [some (.inr (30, 0)), some (.inr (1, 0)), some (.inl (nI 0))]) (by simp [jfg]) ?_
        refine KR 62 0 σ1 (by omega) (by omega) ⟨k1, by rw [k2, show jd (jsdR h 0) = true from jd_iff.mpr (fun r hr => by omega)], fun a ha => ?_, fun w a hw ha => ?_⟩ hf1
        · rw [k3 a ha, bI_n0]; exact bI_ext (fun u _ => (jd_no.mpr (fun ⟨r, hr, _⟩ => by omega)).symm)
        · rw [k4 w a hw ha, bI_n0]; exact bI_ext (fun u _ => (jd_no.mpr (fun ⟨r, hr, _⟩ => by omega)).symm)
      · have _b26 := True.intro
        refine j_aload_n X (q := 30) d_S_takeReads_29 rfl rfl ?_
        refine j_getR X (C := jR3) (T := jT3) (N := 5) (ci := 3) (j := 1) (q := 33) d_S_takeReads_30 ju3 rfl rfl rfl (by decide) wl156 rfl (hC _ _ (by decide)) rfl ?_
        refine j_iload_n X (q := 34) d_S_takeReads_33 rfl rfl ?_
        refine j_aald X (q := 35) d_S_takeReads_34 rfl (by decide) rfl (by omega) (hC _ _ (by decide)) rfl ?_
        refine j_iconst X (v := (nI 0)) (q := 36) d_S_takeReads_35 (by decide +kernel) rfl ?_
        refine j_callS X (n := 2) d_S_takeReads_36 (c_A_fill hI (g := 33) (r := t) (n := 8) rfl (by decide) (hC _ _ (by show _ < 8; omega)) (nI 0) _) wl300 wl71 wl38 wl72 (by decide +kernel) ⟨rfl, rfl⟩ (by decide) rfl rfl (Nat.le_of_ble_eq_true rfl) rfl (q := 39) rfl (fun r36 τ36 e36 => ?_)
        obtain ⟨rfl, rfl⟩ := e36
        refine j_iinc X (q := 42) d_S_takeReads_39 rfl (j_inc1 _) rfl ?_
        refine j_goto X (tgt := 23) d_S_takeReads_42 (by decide) ?_
        refine ih (t + 1) _ (by omega) (by omega) (by rw [jfl_g _ _ _ _ _ (by decide)]; exact k1) (by rw [jfl_g _ _ _ _ _ (by decide)]; exact k2) (fun a ha => by rw [jfl_g _ _ _ _ _ (by decide)]; exact k3 a ha) (fun w a hw ha => ?_) (fun g' h1 h2 h3 => by rw [jfl_g _ _ _ _ _ h3, hf1 g' h1 h2 h3])
        by_cases e : w = t
        · subst e; simp [jfl, ha]
        · simp [jfl, e]; exact k4 w a (by omega) ha
  refine j_aload_n X (q := 1) d_S_takeReads_0 rfl rfl ?_
  refine j_aload_n X (q := 2) d_S_takeReads_1 rfl rfl ?_
  refine j_callV X (n := 0) (C := jR2) (T := jT2) (N := 12) d_S_takeReads_2 (c_H_committedSet hI (fun g r q => hC g r (jHJ q)) hw hs) rfl rfl (hC _ _ (by decide)) wl296 wl297 wl298 wl37 wl299 (by decide +kernel) ⟨rfl, rfl⟩ (by decide) rfl rfl (Nat.le_of_ble_eq_true rfl) rfl (q := 5) rfl (fun r2 τ2 e2 => ?_)
  obtain ⟨rfl, rfl⟩ := e2
  refine j_putI X (C := jR3) (T := jT3) (N := 5) (ci := 3) (j := 3) (q := 8) d_S_takeReads_5 ju3 rfl rfl jt3 jt3_ok jn3 rfl (by decide) wl159 rfl (hC _ _ (by decide)) rfl rfl (ty := .int) rfl rfl rfl ?_
  refine j_aload_n X (q := 9) d_S_takeReads_8 rfl rfl ?_
  refine j_iconst X (v := (nI 1)) (q := 10) d_S_takeReads_9 (by decide +kernel) rfl ?_
  refine j_putI X (C := jR3) (T := jT3) (N := 5) (ci := 3) (j := 4) (q := 13) d_S_takeReads_10 ju3 rfl rfl jt3 jt3_ok jn3 rfl (by decide) wl160 rfl (hC _ _ (by decide)) rfl rfl (ty := .boolean) rfl (by decide +kernel) (by decide +kernel) ?_
  refine j_aload_n X (q := 14) d_S_takeReads_13 rfl rfl ?_
  refine j_getR X (C := jR3) (T := jT3) (N := 5) (ci := 3) (j := 0) (q := 17) d_S_takeReads_14 ju3 rfl rfl rfl (by decide) wl155 rfl (hC _ _ (by decide)) rfl ?_
  refine j_iconst X (v := (nI 0)) (q := 18) d_S_takeReads_17 (by decide +kernel) rfl ?_
  refine j_callS X (n := 2) d_S_takeReads_18 (c_A_fill hI (g := 31) (r := 0) (n := 8) rfl (by decide) (hC _ _ (by decide)) (nI 0) _) wl300 wl71 wl38 wl72 (by decide +kernel) ⟨rfl, rfl⟩ (by decide) rfl rfl (Nat.le_of_ble_eq_true rfl) rfl (q := 21) rfl (fun r18 τ18 e18 => ?_)
  obtain ⟨rfl, rfl⟩ := e18
  refine j_iconst X (v := (nI 0)) (q := 22) d_S_takeReads_21 (by decide +kernel) rfl ?_
  refine j_istore_n X (j := 2) (q := 23) d_S_takeReads_22 rfl (Nat.le_of_ble_eq_true rfl) rfl ?_
  refine jxW.to (L' := [some (.inr (30, 0)), some (.inr (1, 0)), some (.inl (nI 0))]) (by simp [jfg]) ?_
  refine K 9 0 _ (by omega) (by omega) ?_ ?_ ?_ (fun w a hw _ => by omega) (fun g' h1 h2 h3 => ?_)
  · rw [jfl_g _ _ _ _ _ (by decide)]; simp [jxs_at]; rfl
  · rw [jfl_g _ _ _ _ _ (by decide)]; simp [jxs_at]; rfl
  · intro a ha; simp [jfl, ha]
  · rw [jfl_g _ _ _ _ _ h2, jxs_g _ _ _ _ _ h1, jxs_g _ _ _ _ _ h1]
/-- t may follow behind the set D, as the search holds it -/
def jmfc (bf : Nat → Nat → Prop) (rb : Nat → Nat → Nat → Prop) (t : Nat) (D : Nat → Bool) : Prop := (∀ u, u < 8 → bf t u → D u = true) ∧ ∀ w, w < 8 → D w = true → ∀ u, u < 8 → rb w t u → D u = true
theorem jsubI {p : Nat → Prop} {D : Nat → Bool} : bI (fun u => jd (p u)) &&& (bI D ^^^ (-1)) = 0 ↔ ∀ u, u < 8 → p u → D u = true := by
  rw [bI_andn, bI_zero]
  constructor
  · intro h u hu hp
    have := h u hu
    rw [jd_iff.mpr hp] at this
    simpa using this
  · intro h u hu
    cases e : jd (p u) with
    | false => rfl
    | true => rw [h u hu (jd_iff.mp e)]; rfl
theorem jbN_256 (D : Nat → Bool) : jbN D 8 < 256 := jbN_lt D 8
set_option maxRecDepth 100000 in
set_option maxHeartbeats 4000000 in
theorem c_S_mayFollow {l : Launch} {Θ : jxT} (hI : jxI Θ) (hC : ∀ g r, r < jrwJ g → Θ.2.2.2 g r) {σ : jxM} {C : Nat → Bool} {bf : Nat → Nat → Prop} {rb : Nat → Nat → Nat → Prop} {sd : Bool} (hz : jZs C bf rb sd σ) {t : Nat} (ht : t < 8) (D : Nat → Bool) : jxMet l y_S_mayFollow b_S_mayFollow 4 (some FieldType.boolean) (jrm 3) Θ [.inr (30, 0), .inl (nI t), .inl (bI D)] σ (jan (jB (jd (jmfc bf rb t D))) σ) := by
  refine jxMet.of (own := "HistoryJudge$SerialSearch") hI (by decide) rfl (Nat.le_of_ble_eq_true rfl) (fun Γ X => ?_)
  show jxW Γ Θ (jan (jB (jd (jmfc bf rb t D))) σ) 0 [some (.inr (30, 0)), some (.inl (nI t)), some (.inl (bI D)), none] [] σ
  have K : ∀ (N : Nat) (w : Nat), 8 - w < N → w ≤ 8 → (∀ u, u < 8 → bf t u → D u = true) → (∀ v, v < w → D v = true → ∀ u, u < 8 → rb v t u → D u = true) → jxW Γ Θ (jan (jB (jd (jmfc bf rb t D))) σ) 17 [some (.inr (30, 0)), some (.inl (nI t)), some (.inl (bI D)), some (.inl (nI w))] [] σ := by
    intro N
    induction N with
    | zero => intro w hn; exact absurd hn (Nat.not_lt_zero _)
    | succ N ih =>
      intro w hn hw e10 hno
      refine j_iload_n X (q := 18) d_S_mayFollow_17 rfl rfl ?_
      refine j_bipush X (v := (nI 8)) (q := 20) d_S_mayFollow_18 (by decide +kernel) rfl ?_
      refine j_ncmp_ge X (tgt := 54) (q := 23) d_S_mayFollow_20 (by decide) rfl (by omega) (by omega) (fun h20 => ?_) (fun h20 => ?_)
      · have _b20 := True.intro
        refine j_iconst X (v := (nI 1)) (q := 55) d_S_mayFollow_54 (by decide +kernel) rfl ?_
        refine j_zret X d_S_mayFollow_55 (by decide +kernel) ?_
        exact ⟨by rw [jd_iff.mpr ⟨e10, fun v hv hD => hno v (by omega) hD⟩]; rfl, rfl⟩
      · have _b20 := True.intro
        refine j_iload_n X (q := 24) d_S_mayFollow_23 rfl rfl ?_
        refine j_iload_n X (q := 25) d_S_mayFollow_24 rfl rfl ?_
        refine j_callSN X (n := 2) d_S_mayFollow_25 (c_J_has hI D (t := w) (by omega) σ) wl225 nl8 wl36 wl224 (by decide +kernel) ⟨rfl, rfl⟩ (by decide) rfl rfl (Nat.le_of_ble_eq_true rfl) rfl (q := 28) rfl (fun r25 τ25 e25 => ?_)
        obtain ⟨rfl, rfl⟩ := e25
        refine j_bif_eq X (tgt := 48) (q := 31) d_S_mayFollow_28 (by decide) rfl (fun h28 => ?_) (fun h28 => ?_)
        · have _b28 := True.intro
          refine j_iinc X (q := 51) d_S_mayFollow_48 rfl (j_inc1 _) rfl ?_
          refine j_goto X (tgt := 17) d_S_mayFollow_51 (by decide) ?_
          exact ih (w + 1) (by omega) (by omega) e10 (fun v hv hD => by
            by_cases q : v = w
            · subst q; rw [hD] at h28; cases h28
            · exact hno v (by omega) hD)
        · have _b28 := True.intro
          refine j_aload_n X (q := 32) d_S_mayFollow_31 rfl rfl ?_
          refine j_getR X (C := jR3) (T := jT3) (N := 5) (ci := 3) (j := 1) (q := 35) d_S_mayFollow_32 ju3 rfl rfl rfl (by decide) wl156 rfl (hC _ _ (by decide)) rfl ?_
          refine j_iload_n X (q := 36) d_S_mayFollow_35 rfl rfl ?_
          refine j_aald X (q := 37) d_S_mayFollow_36 rfl (by decide) rfl (by omega) (hC _ _ (by decide)) rfl ?_
          refine j_iload_n X (q := 38) d_S_mayFollow_37 rfl rfl ?_
          refine j_iald X (q := 39) d_S_mayFollow_38 rfl (by decide) rfl (by omega) (hC _ _ (by show _ < 8; omega)) rfl (hz.2.2.2 w t (by omega) ht) ?_
          refine j_iload_n X (q := 40) d_S_mayFollow_39 rfl rfl ?_
          refine j_iconst X (v := (-1)) (q := 41) d_S_mayFollow_40 (by decide +kernel) rfl ?_
          refine j_ixor X (q := 42) d_S_mayFollow_41 rfl ?_
          refine j_iand X (q := 43) d_S_mayFollow_42 rfl ?_
          refine j_if_eq X (tgt := 48) (q := 46) d_S_mayFollow_43 (by decide) rfl (fun h43 => ?_) (fun h43 => ?_)
          · have _b43 := True.intro
            have e43 := jsubI.mp h43
            refine j_iinc X (q := 51) d_S_mayFollow_48 rfl (j_inc1 _) rfl ?_
            refine j_goto X (tgt := 17) d_S_mayFollow_51 (by decide) ?_
            exact ih (w + 1) (by omega) (by omega) e10 (fun v hv hD => by
              by_cases q : v = w
              · subst q; exact e43
              · exact hno v (by omega) hD)
          · have _b43 := True.intro
            have e43 : ¬ ∀ u, u < 8 → rb w t u → D u = true := fun q => h43 (jsubI.mpr q)
            refine j_iconst X (v := (nI 0)) (q := 47) d_S_mayFollow_46 (by decide +kernel) rfl ?_
            refine j_zret X d_S_mayFollow_47 (by decide +kernel) ?_
            exact ⟨by rw [jd_no.mpr (fun q => e43 (q.2 w (by omega) h28))]; rfl, rfl⟩
  refine j_aload_n X (q := 1) d_S_mayFollow_0 rfl rfl ?_
  refine j_getR X (C := jR3) (T := jT3) (N := 5) (ci := 3) (j := 0) (q := 4) d_S_mayFollow_1 ju3 rfl rfl rfl (by decide) wl155 rfl (hC _ _ (by decide)) rfl ?_
  refine j_iload_n X (q := 5) d_S_mayFollow_4 rfl rfl ?_
  refine j_iald X (q := 6) d_S_mayFollow_5 rfl (by decide) rfl (by omega) (hC _ _ (by decide)) rfl (hz.2.2.1 t ht) ?_
  refine j_iload_n X (q := 7) d_S_mayFollow_6 rfl rfl ?_
  refine j_iconst X (v := (-1)) (q := 8) d_S_mayFollow_7 (by decide +kernel) rfl ?_
  refine j_ixor X (q := 9) d_S_mayFollow_8 rfl ?_
  refine j_iand X (q := 10) d_S_mayFollow_9 rfl ?_
  refine j_if_eq X (tgt := 15) (q := 13) d_S_mayFollow_10 (by decide) rfl (fun h10 => ?_) (fun h10 => ?_)
  · have _b10 := True.intro
    have e10 := jsubI.mp h10
    refine j_iconst X (v := (nI 0)) (q := 16) d_S_mayFollow_15 (by decide +kernel) rfl ?_
    refine j_istore_n X (j := 3) (q := 17) d_S_mayFollow_16 rfl (Nat.le_of_ble_eq_true rfl) rfl ?_
    exact K 9 0 (by omega) (by omega) e10 (fun w hw => by omega)
  · have _b10 := True.intro
    have e10 : ¬ ∀ u, u < 8 → bf t u → D u = true := fun q => h10 (jsubI.mpr q)
    refine j_iconst X (v := (nI 0)) (q := 14) d_S_mayFollow_13 (by decide +kernel) rfl ?_
    refine j_zret X d_S_mayFollow_14 (by decide +kernel) ?_
    exact ⟨by rw [jd_no.mpr (fun q => e10 q.1)]; rfl, rfl⟩
set_option maxRecDepth 100000 in
set_option maxHeartbeats 4000000 in
theorem c_S_canBeEnded {l : Launch} {Θ : jxT} (hI : jxI Θ) (hC : ∀ g r, r < jrwJ g → Θ.2.2.2 g r) {σ : jxM} {C : Nat → Bool} {bf : Nat → Nat → Prop} {rb : Nat → Nat → Nat → Prop} {sd : Bool} (hz : jZs C bf rb sd σ) (D : Nat → Bool) : jxMet l y_S_canBeEnded b_S_canBeEnded 2 (some FieldType.boolean) (jrm 1) Θ [.inr (30, 0), .inl (bI D)] σ (jan (jB (jd ((∀ i, i < 8 → D i = C i) ∨ σ 34 0 (jbN D 8) ≠ 0))) σ) := by
  refine jxMet.of (own := "HistoryJudge$SerialSearch") hI (by decide) rfl (Nat.le_of_ble_eq_true rfl) (fun Γ X => ?_)
  show jxW Γ Θ (jan (jB (jd ((∀ i, i < 8 → D i = C i) ∨ σ 34 0 (jbN D 8) ≠ 0))) σ) 0 [some (.inr (30, 0)), some (.inl (bI D))] [] σ
  refine j_iload_n X (q := 1) d_S_canBeEnded_0 rfl rfl ?_
  refine j_aload_n X (q := 2) d_S_canBeEnded_1 rfl rfl ?_
  refine j_getI X (C := jR3) (T := jT3) (N := 5) (ci := 3) (j := 3) (q := 5) d_S_canBeEnded_2 ju3 rfl rfl rfl (by decide) wl159 rfl (hC _ _ (by decide)) rfl hz.1 ?_
  refine j_icmp_eq X (tgt := 17) (q := 8) d_S_canBeEnded_5 (by decide) rfl (fun h5 => ?_) (fun h5 => ?_)
  · have _b5 := True.intro
    have e5 : jd ((∀ i, i < 8 → D i = C i) ∨ σ 34 0 (jbN D 8) ≠ 0) = true := jd_iff.mpr (Or.inl (bI_inj h5))
    refine j_iconst X (v := (nI 1)) (q := 18) d_S_canBeEnded_17 (by decide +kernel) rfl ?_
    refine j_goto X (tgt := 22) d_S_canBeEnded_18 (by decide) ?_
    refine j_zret X d_S_canBeEnded_22 (by decide +kernel) ?_
    exact ⟨by rw [e5]; rfl, rfl⟩
  · have _b5 := True.intro
    refine j_aload_n X (q := 9) d_S_canBeEnded_8 rfl rfl ?_
    refine j_getR X (C := jR3) (T := jT3) (N := 5) (ci := 3) (j := 2) (q := 12) d_S_canBeEnded_9 ju3 rfl rfl rfl (by decide) wl157 rfl (hC _ _ (by decide)) rfl ?_
    refine j_iload_n X (q := 13) d_S_canBeEnded_12 rfl rfl ?_
    refine j_iald X (j := jbN D 8) (q := 14) d_S_canBeEnded_13 rfl (by decide) rfl (jbN_256 D) (hC _ _ (by decide)) rfl rfl ?_
    refine j_if_eq X (tgt := 21) (q := 17) d_S_canBeEnded_14 (by decide) rfl (fun h14 => ?_) (fun h14 => ?_)
    · have _b14 := True.intro
      have e5 : jd ((∀ i, i < 8 → D i = C i) ∨ σ 34 0 (jbN D 8) ≠ 0) = false := jd_no.mpr (fun q => q.elim (fun z => h5 (bI_ext z)) (fun z => z h14))
      refine j_iconst X (v := (nI 0)) (q := 22) d_S_canBeEnded_21 (by decide +kernel) rfl ?_
      refine j_zret X d_S_canBeEnded_22 (by decide +kernel) ?_
      exact ⟨by rw [e5]; rfl, rfl⟩
    · have _b14 := True.intro
      have e5 : jd ((∀ i, i < 8 → D i = C i) ∨ σ 34 0 (jbN D 8) ≠ 0) = true := jd_iff.mpr (Or.inr h14)
      refine j_iconst X (v := (nI 1)) (q := 18) d_S_canBeEnded_17 (by decide +kernel) rfl ?_
      refine j_goto X (tgt := 22) d_S_canBeEnded_18 (by decide) ?_
      refine j_zret X d_S_canBeEnded_22 (by decide +kernel) ?_
      exact ⟨by rw [e5]; rfl, rfl⟩
/-- t follows the set D, by what is known of greater sets -/
noncomputable def jfo (C : Nat → Bool) (bf : Nat → Nat → Prop) (rb : Nat → Nat → Nat → Prop) (σ : jxM) (D : Nat → Bool) (t : Nat) : Bool := ((C t && !(D t)) && jd (jmfc bf rb t D)) && jd ((∀ i, i < 8 → jad D t i = C i) ∨ σ 34 0 (jbN (jad D t) 8) ≠ 0)
set_option maxRecDepth 100000 in
set_option maxHeartbeats 4000000 in
theorem c_S_followers {l : Launch} {Θ : jxT} (hI : jxI Θ) (hC : ∀ g r, r < jrwJ g → Θ.2.2.2 g r) {σ : jxM} {C : Nat → Bool} {bf : Nat → Nat → Prop} {rb : Nat → Nat → Nat → Prop} {sd : Bool} (hz : jZs C bf rb sd σ) (D : Nat → Bool) : jxMet l y_S_followers b_S_followers 5 (some FieldType.int) (jrm 4) Θ [.inr (30, 0), .inl (bI D)] σ (jan (bI (jfo C bf rb σ D)) σ) := by
  refine jxMet.of (own := "HistoryJudge$SerialSearch") hI (by decide) rfl (Nat.le_of_ble_eq_true rfl) (fun Γ X => ?_)
  show jxW Γ Θ (jan (bI (jfo C bf rb σ D)) σ) 0 [some (.inr (30, 0)), some (.inl (bI D)), none, none, none] [] σ
  have K : ∀ (N : Nat) (t : Nat), 8 - t < N → t ≤ 8 → jxW Γ Θ (jan (bI (jfo C bf rb σ D)) σ) 4 [some (.inr (30, 0)), some (.inl (bI D)), some (.inl (bI (fun i => decide (i < t) && jfo C bf rb σ D i))), some (.inl (nI (t))), none] [] σ := by
    intro N
    induction N with
    | zero => intro t hn; exact absurd hn (Nat.not_lt_zero _)
    | succ N ih =>
      intro t hn ht
      refine j_iload_n X (q := 5) d_S_followers_4 rfl rfl ?_
      refine j_bipush X (v := (nI 8)) (q := 7) d_S_followers_5 (by decide +kernel) rfl ?_
      refine j_ncmp_ge X (tgt := 76) (q := 10) d_S_followers_7 (by decide) rfl (by omega) (by omega) (fun h7 => ?_) (fun h7 => ?_)
      · have _b7 := True.intro
        refine j_iload_n X (q := 77) d_S_followers_76 rfl rfl ?_
        refine j_iret X d_S_followers_77 ?_
        have et : t = 8 := by omega
        subst et
        exact ⟨by rw [bI_ext (S := fun i => decide (i < 8) && jfo C bf rb σ D i) (T := jfo C bf rb σ D) (fun i hi => by simp [hi])], rfl⟩
      · have _b7 := True.intro
        have J34 : jxW Γ Θ (jan (bI (jfo C bf rb σ D)) σ) 34 [some (.inr (30, 0)), some (.inl (bI D)), some (.inl (bI (fun i => decide (i < t) && jfo C bf rb σ D i))), some (.inl (nI t)), none] [.inl (jB (C t && !(D t)))] σ := by
          refine j_istore X (q := 36) d_S_followers_34 (Nat.le_of_ble_eq_true rfl) rfl ?_
          refine j_iload X (q := 38) d_S_followers_36 rfl rfl ?_
          refine j_bif_eq X (tgt := 70) (q := 41) d_S_followers_38 (by decide) rfl (fun h38 => ?_) (fun h38 => ?_)
          · have _b38 := True.intro
            refine j_iinc X (q := 73) d_S_followers_70 rfl (j_inc1 _) rfl ?_
            refine j_goto X (tgt := 4) d_S_followers_73 (by decide) ?_
            have ef : jfo C bf rb σ D t = false := by unfold jfo; rw [h38]; rfl
            have e : bI (fun i => decide (i < t) && jfo C bf rb σ D i) = bI (fun i => decide (i < t + 1) && jfo C bf rb σ D i) := bI_ext (fun i hi => by
              by_cases q : i = t
              · subst q; simp [ef]
              · rw [jlt_succ q])
            refine jxW.to (L' := [some (.inr (30, 0)), some (.inl (bI D)), some (.inl (bI (fun i => decide (i < t + 1) && jfo C bf rb σ D i))), some (.inl (nI (t + 1))), none]) (by simp [jfg, e]) ?_
            exact ih (t + 1) (by omega) (by omega)
          · have _b38 := True.intro
            refine j_aload_n X (q := 42) d_S_followers_41 rfl rfl ?_
            refine j_iload_n X (q := 43) d_S_followers_42 rfl rfl ?_
            refine j_iload_n X (q := 44) d_S_followers_43 rfl rfl ?_
            refine j_callV X (n := 2) (C := jR3) (T := jT3) (N := 5) d_S_followers_44 (c_S_mayFollow hI hC hz (t := t) (by omega) D) rfl rfl (hC _ _ (by decide)) wl319 wl320 wl13 wl41 wl321 (by decide +kernel) ⟨rfl, rfl⟩ (by decide) rfl rfl (Nat.le_of_ble_eq_true rfl) rfl (q := 47) rfl (fun r44 τ44 e44 => ?_)
            obtain ⟨rfl, rfl⟩ := e44
            refine j_bif_eq X (tgt := 70) (q := 50) d_S_followers_47 (by decide) rfl (fun h47 => ?_) (fun h47 => ?_)
            · have _b47 := True.intro
              refine j_iinc X (q := 73) d_S_followers_70 rfl (j_inc1 _) rfl ?_
              refine j_goto X (tgt := 4) d_S_followers_73 (by decide) ?_
              have ef : jfo C bf rb σ D t = false := by unfold jfo; rw [h38, h47]; rfl
              have e : bI (fun i => decide (i < t) && jfo C bf rb σ D i) = bI (fun i => decide (i < t + 1) && jfo C bf rb σ D i) := bI_ext (fun i hi => by
                by_cases q : i = t
                · subst q; simp [ef]
                · rw [jlt_succ q])
              refine jxW.to (L' := [some (.inr (30, 0)), some (.inl (bI D)), some (.inl (bI (fun i => decide (i < t + 1) && jfo C bf rb σ D i))), some (.inl (nI (t + 1))), none]) (by simp [jfg, e]) ?_
              exact ih (t + 1) (by omega) (by omega)
            · have _b47 := True.intro
              refine j_aload_n X (q := 51) d_S_followers_50 rfl rfl ?_
              refine j_iload_n X (q := 52) d_S_followers_51 rfl rfl ?_
              refine j_iload_n X (q := 53) d_S_followers_52 rfl rfl ?_
              refine j_callSN X (n := 1) d_S_followers_53 (c_J_only hI (t := t) (by omega) σ) wl208 nl9 wl36 wl207 (by decide +kernel) ⟨rfl, rfl⟩ (by decide) rfl rfl (Nat.le_of_ble_eq_true rfl) rfl (q := 56) rfl (fun r53 τ53 e53 => ?_)
              obtain ⟨rfl, rfl⟩ := e53
              refine j_ior X (q := 57) d_S_followers_56 rfl ?_
              refine jxW.cast rfl (show _ = [.inl (bI (jad D t)), .inr (30, 0)] by rw [bI_or]; rfl) rfl ?_
              refine j_callV X (n := 1) (C := jR3) (T := jT3) (N := 5) d_S_followers_57 (c_S_canBeEnded hI hC hz (jad D t)) rfl rfl (hC _ _ (by decide)) wl322 wl323 wl14 wl41 wl324 (by decide +kernel) ⟨rfl, rfl⟩ (by decide) rfl rfl (Nat.le_of_ble_eq_true rfl) rfl (q := 60) rfl (fun r57 τ57 e57 => ?_)
              obtain ⟨rfl, rfl⟩ := e57
              refine j_bif_eq X (tgt := 70) (q := 63) d_S_followers_60 (by decide) rfl (fun h60 => ?_) (fun h60 => ?_)
              · have _b60 := True.intro
                refine j_iinc X (q := 73) d_S_followers_70 rfl (j_inc1 _) rfl ?_
                refine j_goto X (tgt := 4) d_S_followers_73 (by decide) ?_
                have ef : jfo C bf rb σ D t = false := by unfold jfo; rw [h38, h47, h60]; rfl
                have e : bI (fun i => decide (i < t) && jfo C bf rb σ D i) = bI (fun i => decide (i < t + 1) && jfo C bf rb σ D i) := bI_ext (fun i hi => by
                  by_cases q : i = t
                  · subst q; simp [ef]
                  · rw [jlt_succ q])
                refine jxW.to (L' := [some (.inr (30, 0)), some (.inl (bI D)), some (.inl (bI (fun i => decide (i < t + 1) && jfo C bf rb σ D i))), some (.inl (nI (t + 1))), none]) (by simp [jfg, e]) ?_
                exact ih (t + 1) (by omega) (by omega)
              · have _b60 := True.intro
                refine j_iload_n X (q := 64) d_S_followers_63 rfl rfl ?_
                refine j_iload_n X (q := 65) d_S_followers_64 rfl rfl ?_
                refine j_callSN X (n := 1) d_S_followers_65 (c_J_only hI (t := t) (by omega) σ) wl208 nl9 wl36 wl207 (by decide +kernel) ⟨rfl, rfl⟩ (by decide) rfl rfl (Nat.le_of_ble_eq_true rfl) rfl (q := 68) rfl (fun r65 τ65 e65 => ?_)
                obtain ⟨rfl, rfl⟩ := e65
                refine j_ior X (q := 69) d_S_followers_68 rfl ?_
                refine j_istore_n X (j := 2) (q := 70) d_S_followers_69 rfl (Nat.le_of_ble_eq_true rfl) rfl ?_
                refine j_iinc X (q := 73) d_S_followers_70 rfl (j_inc1 _) rfl ?_
                refine j_goto X (tgt := 4) d_S_followers_73 (by decide) ?_
                have ef : jfo C bf rb σ D t = true := by unfold jfo; rw [h38, h47, h60]; rfl
                have e : bI (fun i => decide (i < t) && jfo C bf rb σ D i) ||| bI (fun i => decide (i = t)) = bI (fun i => decide (i < t + 1) && jfo C bf rb σ D i) := by
                  rw [bI_or]
                  exact bI_ext (fun i hi => by
                    by_cases q : i = t
                    · subst q; simp [ef]
                    · rw [jlt_succ q]; simp [q])
                refine jxW.to (L' := [some (.inr (30, 0)), some (.inl (bI D)), some (.inl (bI (fun i => decide (i < t + 1) && jfo C bf rb σ D i))), some (.inl (nI (t + 1))), none]) (by simp [jfg, e]) ?_
                exact ih (t + 1) (by omega) (by omega)
        refine j_aload_n X (q := 11) d_S_followers_10 rfl rfl ?_
        refine j_getI X (C := jR3) (T := jT3) (N := 5) (ci := 3) (j := 3) (q := 14) d_S_followers_11 ju3 rfl rfl rfl (by decide) wl159 rfl (hC _ _ (by decide)) rfl hz.1 ?_
        refine j_iload_n X (q := 15) d_S_followers_14 rfl rfl ?_
        refine j_callSN X (n := 2) d_S_followers_15 (c_J_has hI C (t := t) (by omega) σ) wl225 nl8 wl36 wl224 (by decide +kernel) ⟨rfl, rfl⟩ (by decide) rfl rfl (Nat.le_of_ble_eq_true rfl) rfl (q := 18) rfl (fun r15 τ15 e15 => ?_)
        obtain ⟨rfl, rfl⟩ := e15
        refine j_bif_eq X (tgt := 33) (q := 21) d_S_followers_18 (by decide) rfl (fun h18 => ?_) (fun h18 => ?_)
        · have _b18 := True.intro
          refine j_iconst X (v := (nI 0)) (q := 34) d_S_followers_33 (by decide +kernel) rfl ?_
          refine jxW.to (L' := [some (.inr (30, 0)), some (.inl (bI D)), some (.inl (bI (fun i => decide (i < t) && jfo C bf rb σ D i))), some (.inl (nI t)), none]) (by simp [jfg]) ?_
          refine jxW.cast rfl (show _ = [.inl (jB (C t && !(D t)))] by rw [h18]; rfl) rfl ?_
          exact J34
        · have _b18 := True.intro
          refine j_iload_n X (q := 22) d_S_followers_21 rfl rfl ?_
          refine j_iload_n X (q := 23) d_S_followers_22 rfl rfl ?_
          refine j_callSN X (n := 2) d_S_followers_23 (c_J_has hI D (t := t) (by omega) σ) wl225 nl8 wl36 wl224 (by decide +kernel) ⟨rfl, rfl⟩ (by decide) rfl rfl (Nat.le_of_ble_eq_true rfl) rfl (q := 26) rfl (fun r23 τ23 e23 => ?_)
          obtain ⟨rfl, rfl⟩ := e23
          refine j_bif_ne X (tgt := 33) (q := 29) d_S_followers_26 (by decide) rfl (fun h26 => ?_) (fun h26 => ?_)
          · have _b26 := True.intro
            refine j_iconst X (v := (nI 0)) (q := 34) d_S_followers_33 (by decide +kernel) rfl ?_
            refine jxW.to (L' := [some (.inr (30, 0)), some (.inl (bI D)), some (.inl (bI (fun i => decide (i < t) && jfo C bf rb σ D i))), some (.inl (nI t)), none]) (by simp [jfg]) ?_
            refine jxW.cast rfl (show _ = [.inl (jB (C t && !(D t)))] by rw [h18, h26]; rfl) rfl ?_
            exact J34
          · have _b26 := True.intro
            refine j_iconst X (v := (nI 1)) (q := 30) d_S_followers_29 (by decide +kernel) rfl ?_
            refine j_goto X (tgt := 34) d_S_followers_30 (by decide) ?_
            refine jxW.to (L' := [some (.inr (30, 0)), some (.inl (bI D)), some (.inl (bI (fun i => decide (i < t) && jfo C bf rb σ D i))), some (.inl (nI t)), none]) (by simp [jfg]) ?_
            refine jxW.cast rfl (show _ = [.inl (jB (C t && !(D t)))] by rw [h18, h26]; rfl) rfl ?_
            exact J34
  refine j_iconst X (v := (nI 0)) (q := 1) d_S_followers_0 (by decide +kernel) rfl ?_
  refine j_istore_n X (j := 2) (q := 2) d_S_followers_1 rfl (Nat.le_of_ble_eq_true rfl) rfl ?_
  refine j_iconst X (v := (nI 0)) (q := 3) d_S_followers_2 (by decide +kernel) rfl ?_
  refine j_istore_n X (j := 3) (q := 4) d_S_followers_3 rfl (Nat.le_of_ble_eq_true rfl) rfl ?_
  refine jxW.to (L' := [some (.inr (30, 0)), some (.inl (bI D)), some (.inl (bI (fun i => decide (i < 0) && jfo C bf rb σ D i))), some (.inl (nI (0))), none]) (by simp [jfg, bI_n0]) ?_
  exact K 9 0 (by omega) (by omega)
end
section
/-! The search for serial orders: every set from the fullest down; the answers. -/
def jtb (m : Nat) : Nat → Bool := fun i => m.testBit i
theorem jtb_big {m i : Nat} (hm : m < 256) (hi : 8 ≤ i) : jtb m i = false := by
  unfold jtb
  refine Nat.testBit_lt_two_pow (Nat.lt_of_lt_of_le (show m < 2 ^ 8 from hm) (Nat.pow_le_pow_right (by omega) hi))
theorem jtb_bN (S : Nat → Bool) : jtb (jbN S 8) = fun i => decide (i < 8) && S i := by
  funext i
  exact jbN_test S 8 i
theorem jbN_tb {m : Nat} (hm : m < 256) : jbN (jtb m) 8 = m := by
  apply Nat.eq_of_testBit_eq
  intro i
  rw [jbN_test]
  by_cases h : i < 8
  · simp [h, jtb]
  · have := jtb_big hm (show 8 ≤ i by omega)
    unfold jtb at this
    simp [h, this]
theorem jtb_nI {m : Nat} (hm : m < 256) : nI m = bI (jtb m) := by unfold bI; rw [jbN_tb hm]
theorem jtb_ad {m t : Nat} (hm : m < 256) (ht : t < 8) : jtb (jbN (jad (jtb m) t) 8) = jad (jtb m) t := by
  rw [jtb_bN]
  funext i
  by_cases h : i < 8
  · simp [h]
  · have e : jad (jtb m) t i = false := by
      unfold jad
      rw [jtb_big hm (by omega), decide_eq_false (by omega)]
      rfl
    rw [e]; simp
theorem jtb_lt {m t : Nat} (hm : m < 256) (ht : t < 8) (h0 : jtb m t = false) : m < jbN (jad (jtb m) t) 8 := by
  have e : jbN (jad (jtb m) t) 8 = m ||| 2 ^ t := by
    apply Nat.eq_of_testBit_eq
    intro j
    rw [jbN_test, Nat.testBit_or, Nat.testBit_two_pow]
    by_cases h : j < 8
    · by_cases q : t = j
      · subst q; simp [h, jad]
      · simp [h, jad, jtb, q, show ¬ j = t from fun z => q z.symm]
    · have := jtb_big hm (show 8 ≤ j by omega)
      unfold jtb at this
      simp [h, this]; omega
  rw [e]
  refine Nat.lt_of_le_of_ne Nat.left_le_or (fun q => ?_)
  have h1 : m.testBit t = (m ||| 2 ^ t).testBit t := by rw [← q]
  rw [Nat.testBit_or, Nat.testBit_two_pow] at h1
  unfold jtb at h0
  rw [h0] at h1
  simp at h1
/-- what nexts holds of the set m -/
noncomputable def jnxt (C : Nat → Bool) (bf : Nat → Nat → Prop) (rb : Nat → Nat → Nat → Prop) (sd : Bool) (m : Nat) : Int32 := if (sd && jd (∀ i, i < 8 → jtb m i = true → C i = true)) = true then bI (fun t => jd (jnf C (jmfc bf rb) (jtb m) t)) else nI 0
theorem jfo_nf {C : Nat → Bool} {bf : Nat → Nat → Prop} {rb : Nat → Nat → Nat → Prop} {sd : Bool} {σ : jxM} {m : Nat} (hm : m < 256) (hsd : sd = true) (hsub : ∀ i, i < 8 → jtb m i = true → C i = true) (hall : ∀ m', m < m' → m' < 256 → σ 34 0 m' = jnxt C bf rb sd m') {t : Nat} (ht : t < 8) :
    jfo C bf rb σ (jtb m) t = jd (jnf C (jmfc bf rb) (jtb m) t) := by
  rw [Bool.eq_iff_iff, jd_iff]
  unfold jfo jnf
  rw [Bool.and_eq_true, Bool.and_eq_true, Bool.and_eq_true, jd_iff, jd_iff, Bool.not_eq_true']
  have key : C t = true → jtb m t = false → (((∀ i, i < 8 → jad (jtb m) t i = C i) ∨ σ 34 0 (jbN (jad (jtb m) t) 8) ≠ 0) ↔ jce C (jmfc bf rb) (jad (jtb m) t)) := by
    intro hc h0
    have hsub2 : ∀ i, i < 8 → jad (jtb m) t i = true → C i = true := by
      intro i hi q
      unfold jad at q
      rw [Bool.or_eq_true, decide_eq_true_eq] at q
      rcases q with q | q
      · exact hsub i hi q
      · rw [q]; exact hc
    have hv : σ 34 0 (jbN (jad (jtb m) t) 8) = bI (fun u => jd (jnf C (jmfc bf rb) (jad (jtb m) t) u)) := by
      rw [hall _ (jtb_lt hm ht h0) (jbN_256 _)]
      unfold jnxt
      rw [jtb_ad hm ht, if_pos (by rw [hsd, jd_iff.mpr hsub2]; rfl)]
    rw [hv, jce_iff, Ne, bI_zero]
    constructor
    · rintro (q | q)
      · exact Or.inl (fun u hu hcu => by rw [q u hu]; exact hcu)
      · refine Or.inr (Classical.byContradiction (fun z => q (fun u hu => jd_no.mpr (fun y => z ⟨u, y⟩))))
    · rintro (q | ⟨u, q⟩)
      · refine Or.inl (fun i hi => ?_)
        cases e : jad (jtb m) t i with
        | true => exact (hsub2 i hi e).symm
        | false =>
          cases e2 : C i with
          | false => rfl
          | true => rw [q i hi e2] at e; cases e
      · refine Or.inr (fun z => ?_)
        have := z u q.1
        rw [jd_iff.mpr q] at this; cases this
  constructor
  · rintro ⟨⟨⟨a, b⟩, c⟩, d⟩
    exact ⟨ht, a, b, c, (key a b).mp d⟩
  · rintro ⟨_, a, b, c, d⟩
    exact ⟨⟨⟨a, b⟩, c⟩, (key a b).mpr d⟩
def jprd : Nat → Option Nat
  | 0 => none
  | m + 1 => some m
set_option maxRecDepth 100000 in
set_option maxHeartbeats 4000000 in
theorem c_S_explore {l : Launch} {Θ : jxT} (hI : jxI Θ) (hC : ∀ g r, r < jrwJ g → Θ.2.2.2 g r) {h : jH} {σ : jxM} (hw : jHw h) (hs : jHs h σ)  : jxMet l y_S_explore b_S_explore 4 none (jrm 6) Θ [.inr (30, 0), .inr (1, 0)] σ (fun r' σ' => r' = none ∧ jZs (jcmt h) (jbfR h (hyR h)) (jrbR h (hyR h)) (jd (jsdR h (hyR h))) σ' ∧ (∀ m, m < 256 → σ' 34 0 m = jnxt (jcmt h) (jbfR h (hyR h)) (jrbR h (hyR h)) (jd (jsdR h (hyR h))) m) ∧ ∀ g', g' < 30 ∨ 34 < g' → σ' g' = σ g') := by
  refine jxMet.of (own := "HistoryJudge$SerialSearch") hI (by decide) rfl (Nat.le_of_ble_eq_true rfl) (fun Γ X => ?_)
  show jxW Γ Θ (fun r' σ' => r' = none ∧ jZs (jcmt h) (jbfR h (hyR h)) (jrbR h (hyR h)) (jd (jsdR h (hyR h))) σ' ∧ (∀ m, m < 256 → σ' 34 0 m = jnxt (jcmt h) (jbfR h (hyR h)) (jrbR h (hyR h)) (jd (jsdR h (hyR h))) m) ∧ ∀ g', g' < 30 ∨ 34 < g' → σ' g' = σ g') 0 [some (.inr (30, 0)), some (.inr (1, 0)), none, none] [] σ
  have K : ∀ (N : Nat) (k : Nat) (σ1 : jxM), k < N → k ≤ 256 → jZs (jcmt h) (jbfR h (hyR h)) (jrbR h (hyR h)) (jd (jsdR h (hyR h))) σ1 → (∀ m', k ≤ m' → m' < 256 → σ1 34 0 m' = jnxt (jcmt h) (jbfR h (hyR h)) (jrbR h (hyR h)) (jd (jsdR h (hyR h))) m') → (∀ g', g' < 30 ∨ 34 < g' → σ1 g' = σ g') → jxW Γ Θ (fun r' σ' => r' = none ∧ jZs (jcmt h) (jbfR h (hyR h)) (jrbR h (hyR h)) (jd (jsdR h (hyR h))) σ' ∧ (∀ m, m < 256 → σ' 34 0 m = jnxt (jcmt h) (jbfR h (hyR h)) (jrbR h (hyR h)) (jd (jsdR h (hyR h))) m) ∧ ∀ g', g' < 30 ∨ 34 < g' → σ' g' = σ g') 13 [some (.inr (30, 0)), some (.inr (1, 0)), some (.inl (vI (jprd k))), none] [] σ1 := by
    intro N
    induction N with
    | zero => intro k σ1 hn; exact absurd hn (Nat.not_lt_zero _)
    | succ N ih =>
      intro k σ1 hn hk hz1 hx1 hf1
      refine j_iload_n X (q := 14) d_S_explore_13 rfl rfl ?_
      refine j_if_lt X (tgt := 66) (q := 17) d_S_explore_14 (by decide) rfl (fun h14 => ?_) (fun h14 => ?_)
      · have _b14 := True.intro
        have hk0 : k = 0 := by
          cases k with
          | zero => rfl
          | succ m => exact absurd h14 (nI_pos (show m < 2 ^ 31 by omega))
        refine j_vret X d_S_explore_66 ?_
        subst hk0
        exact ⟨rfl, hz1, fun m hm => hx1 m (by omega) hm, hf1⟩
      · have _b14 := True.intro
        obtain ⟨m, rfl⟩ : ∃ m, k = m + 1 := by
          cases k with
          | zero => exact absurd (by decide +kernel : vI (jprd 0) < 0) h14
          | succ m => exact ⟨m, rfl⟩
        have hm : m < 256 := by omega
        have J40 : jxW Γ Θ (fun r' σ' => r' = none ∧ jZs (jcmt h) (jbfR h (hyR h)) (jrbR h (hyR h)) (jd (jsdR h (hyR h))) σ' ∧ (∀ m, m < 256 → σ' 34 0 m = jnxt (jcmt h) (jbfR h (hyR h)) (jrbR h (hyR h)) (jd (jsdR h (hyR h))) m) ∧ ∀ g', g' < 30 ∨ 34 < g' → σ' g' = σ g') 40 [some (.inr (30, 0)), some (.inr (1, 0)), some (.inl (nI m)), none] [.inl (jB (jd (jsdR h (hyR h)) && jd (∀ i, i < 8 → jtb m i = true → jcmt h i = true)))] σ1 := by
          refine j_istore_n X (j := 3) (q := 41) d_S_explore_40 rfl (Nat.le_of_ble_eq_true rfl) rfl ?_
          refine j_aload_n X (q := 42) d_S_explore_41 rfl rfl ?_
          refine j_getR X (C := jR3) (T := jT3) (N := 5) (ci := 3) (j := 2) (q := 45) d_S_explore_42 ju3 rfl rfl rfl (by decide) wl157 rfl (hC _ _ (by decide)) rfl ?_
          refine j_iload_n X (q := 46) d_S_explore_45 rfl rfl ?_
          refine j_iload_n X (q := 47) d_S_explore_46 rfl rfl ?_
          refine j_bif_eq X (tgt := 58) (q := 50) d_S_explore_47 (by decide) rfl (fun h47 => ?_) (fun h47 => ?_)
          · have _b47 := True.intro
            refine j_iconst X (v := (nI 0)) (q := 59) d_S_explore_58 (by decide +kernel) rfl ?_
            refine j_iast X (q := 60) d_S_explore_59 rfl (by decide) rfl hm (hC _ _ (by decide)) rfl ?_
            refine j_iinc X (q := 63) d_S_explore_60 rfl (show nI m + Int32.ofInt (-1) = vI (jprd m) by cases m with | zero => decide +kernel | succ q => exact j_dec1 q) rfl ?_
            refine j_goto X (tgt := 13) d_S_explore_63 (by decide) ?_
            refine jxW.to (L' := [some (.inr (30, 0)), some (.inr (1, 0)), some (.inl (vI (jprd m))), none]) (by simp [jfg]) ?_
            refine ih m _ (by omega) (by omega) (jZs_keep hz1 (jxs_g _ _ _ _ _ (by decide)) (jxs_g _ _ _ _ _ (by decide)) (jxs_g _ _ _ _ _ (by decide))) (fun m' h1 h2 => ?_) (fun g' hg => by rw [jxs_g _ _ _ _ _ (by omega), hf1 g' hg])
            by_cases e : m' = m
            · subst e
              rw [jxs_at, if_pos ⟨rfl, rfl, rfl⟩]
              unfold jnxt
              rw [if_neg (by rw [h47]; exact Bool.false_ne_true)]
            · rw [jxs_at, if_neg (fun q => e q.2.2)]
              exact hx1 m' (by omega) h2
          · have _b47 := True.intro
            refine j_aload_n X (q := 51) d_S_explore_50 rfl rfl ?_
            refine j_iload_n X (q := 52) d_S_explore_51 rfl rfl ?_
            refine jxW.cast rfl (show _ = [.inl (bI (jtb m)), .inr (30, 0), .inl (nI m), .inr (34, 0)] by rw [← jtb_nI hm]) rfl ?_
            refine j_callV X (n := 1) (C := jR3) (T := jT3) (N := 5) d_S_explore_52 (c_S_followers hI hC hz1 (jtb m)) rfl rfl (hC _ _ (by decide)) wl316 wl317 wl12 wl41 wl318 (by decide +kernel) ⟨rfl, rfl⟩ (by decide) rfl rfl (Nat.le_of_ble_eq_true rfl) rfl (q := 55) rfl (fun r52 τ52 e52 => ?_)
            obtain ⟨rfl, rfl⟩ := e52
            refine j_goto X (tgt := 59) d_S_explore_55 (by decide) ?_
            refine j_iast X (q := 60) d_S_explore_59 rfl (by decide) rfl hm (hC _ _ (by decide)) rfl ?_
            refine j_iinc X (q := 63) d_S_explore_60 rfl (show nI m + Int32.ofInt (-1) = vI (jprd m) by cases m with | zero => decide +kernel | succ q => exact j_dec1 q) rfl ?_
            refine j_goto X (tgt := 13) d_S_explore_63 (by decide) ?_
            refine jxW.to (L' := [some (.inr (30, 0)), some (.inr (1, 0)), some (.inl (vI (jprd m))), none]) (by simp [jfg]) ?_
            refine ih m _ (by omega) (by omega) (jZs_keep hz1 (jxs_g _ _ _ _ _ (by decide)) (jxs_g _ _ _ _ _ (by decide)) (jxs_g _ _ _ _ _ (by decide))) (fun m' h1 h2 => ?_) (fun g' hg => by rw [jxs_g _ _ _ _ _ (by omega), hf1 g' hg])
            by_cases e : m' = m
            · subst e
              rw [jxs_at, if_pos ⟨rfl, rfl, rfl⟩]
              unfold jnxt
              rw [if_pos h47]
              rw [Bool.and_eq_true, jd_iff (p := ∀ i, i < 8 → jtb m' i = true → jcmt h i = true)] at h47
              exact bI_ext (fun t ht => jfo_nf hm h47.1 h47.2 (fun q h1 h2 => hx1 q (by omega) h2) ht)
            · rw [jxs_at, if_neg (fun q => e q.2.2)]
              exact hx1 m' (by omega) h2
        refine j_aload_n X (q := 18) d_S_explore_17 rfl rfl ?_
        refine j_getI X (C := jR3) (T := jT3) (N := 5) (ci := 3) (j := 4) (q := 21) d_S_explore_18 ju3 rfl rfl rfl (by decide) wl160 rfl (hC _ _ (by decide)) rfl hz1.2.1 ?_
        refine j_bif_eq X (tgt := 39) (q := 24) d_S_explore_21 (by decide) rfl (fun h21 => ?_) (fun h21 => ?_)
        · have _b21 := True.intro
          have ea : (jd (jsdR h (hyR h)) && jd (∀ i, i < 8 → jtb m i = true → jcmt h i = true)) = false := by rw [h21]; rfl
          refine j_iconst X (v := (nI 0)) (q := 40) d_S_explore_39 (by decide +kernel) rfl ?_
          refine jxW.to (L' := [some (.inr (30, 0)), some (.inr (1, 0)), some (.inl (nI m)), none]) (by simp [jfg, jprd, vI]) ?_
          refine jxW.cast rfl (show _ = [.inl (jB (jd (jsdR h (hyR h)) && jd (∀ i, i < 8 → jtb m i = true → jcmt h i = true)))] by rw [ea]; rfl) rfl ?_
          exact J40
        · have _b21 := True.intro
          refine j_iload_n X (q := 25) d_S_explore_24 rfl rfl ?_
          refine j_aload_n X (q := 26) d_S_explore_25 rfl rfl ?_
          refine j_getI X (C := jR3) (T := jT3) (N := 5) (ci := 3) (j := 3) (q := 29) d_S_explore_26 ju3 rfl rfl rfl (by decide) wl159 rfl (hC _ _ (by decide)) rfl hz1.1 ?_
          refine j_iconst X (v := (-1)) (q := 30) d_S_explore_29 (by decide +kernel) rfl ?_
          refine j_ixor X (q := 31) d_S_explore_30 rfl ?_
          refine jxW.cast rfl (show _ = [.inl (bI (jcmt h) ^^^ (-1)), .inl (bI (jtb m))] by rw [← jtb_nI hm]; rfl) rfl ?_
          refine j_iand X (q := 32) d_S_explore_31 rfl ?_
          refine j_if_ne X (tgt := 39) (q := 35) d_S_explore_32 (by decide) rfl (fun h32 => ?_) (fun h32 => ?_)
          · have _b32 := True.intro
            have ea : (jd (jsdR h (hyR h)) && jd (∀ i, i < 8 → jtb m i = true → jcmt h i = true)) = false := by
              rw [(jd_no (p := ∀ i, i < 8 → jtb m i = true → jcmt h i = true)).mpr (fun q => h32 (by rw [bI_andn, bI_zero]; intro i hi; cases e : jtb m i with | false => rfl | true => rw [q i hi e]; rfl)), Bool.and_false]
            refine j_iconst X (v := (nI 0)) (q := 40) d_S_explore_39 (by decide +kernel) rfl ?_
            refine jxW.to (L' := [some (.inr (30, 0)), some (.inr (1, 0)), some (.inl (nI m)), none]) (by simp [jfg, jprd, vI]) ?_
            refine jxW.cast rfl (show _ = [.inl (jB (jd (jsdR h (hyR h)) && jd (∀ i, i < 8 → jtb m i = true → jcmt h i = true)))] by rw [ea]; rfl) rfl ?_
            exact J40
          · have _b32 := True.intro
            have ea : (jd (jsdR h (hyR h)) && jd (∀ i, i < 8 → jtb m i = true → jcmt h i = true)) = true := by
              rw [h21, jd_iff.mpr (fun i hi q => by have := (bI_zero _).mp ((bI_andn _ _).symm.trans h32) i hi; simpa [q] using this)]; rfl
            refine j_iconst X (v := (nI 1)) (q := 36) d_S_explore_35 (by decide +kernel) rfl ?_
            refine j_goto X (tgt := 40) d_S_explore_36 (by decide) ?_
            refine jxW.to (L' := [some (.inr (30, 0)), some (.inr (1, 0)), some (.inl (nI m)), none]) (by simp [jfg, jprd, vI]) ?_
            refine jxW.cast rfl (show _ = [.inl (jB (jd (jsdR h (hyR h)) && jd (∀ i, i < 8 → jtb m i = true → jcmt h i = true)))] by rw [ea]; rfl) rfl ?_
            exact J40
  refine j_aload_n X (q := 1) d_S_explore_0 rfl rfl ?_
  refine j_aload_n X (q := 2) d_S_explore_1 rfl rfl ?_
  refine j_callV X (n := 1) (C := jR3) (T := jT3) (N := 5) d_S_explore_2 (c_S_takeReads hI hC hw hs) rfl rfl (hC _ _ (by decide)) wl293 wl294 wl8 wl41 wl295 (by decide +kernel) ⟨rfl, rfl⟩ (by decide) rfl rfl (Nat.le_of_ble_eq_true rfl) rfl (q := 5) rfl (fun r2 τ2 e2 => ?_)
  obtain ⟨rfl, hz0, hf0⟩ := e2
  refine j_aload_n X (q := 6) d_S_explore_5 rfl rfl ?_
  refine j_getR X (C := jR3) (T := jT3) (N := 5) (ci := 3) (j := 2) (q := 9) d_S_explore_6 ju3 rfl rfl rfl (by decide) wl157 rfl (hC _ _ (by decide)) rfl ?_
  refine j_alen X (q := 10) d_S_explore_9 rfl (hC _ _ (by decide)) rfl ?_
  refine j_iconst X (v := (nI 1)) (q := 11) d_S_explore_10 (by decide +kernel) rfl ?_
  refine j_isub X (q := 12) d_S_explore_11 rfl ?_
  refine j_istore_n X (j := 2) (q := 13) d_S_explore_12 rfl (Nat.le_of_ble_eq_true rfl) rfl ?_
  refine jxW.to (L' := [some (.inr (30, 0)), some (.inr (1, 0)), some (.inl (vI (jprd 256))), none]) (by simp [jfg, jprd, vI]; decide +kernel) ?_
  exact K 257 256 _ (by omega) (by omega) hz0 (fun m' h1 h2 => by omega) (fun g' hg => hf0 g' (by omega) (by omega) (by omega))
theorem jbN_none : jbN (fun _ => false) 8 = 0 := by decide
theorem jtb_0 : jtb 0 = fun _ => false := by funext i; simp [jtb]
/-- an order can be ended from nothing: what the search answers -/
theorem jpo_iff {C : Nat → Bool} {bf : Nat → Nat → Prop} {rb : Nat → Nat → Nat → Prop} {sd : Bool} {σ : jxM} (hx : ∀ m, m < 256 → σ 34 0 m = jnxt C bf rb sd m) : (sd && jd ((∀ i, i < 8 → (fun _ => false) i = C i) ∨ σ 34 0 (jbN (fun _ => false) 8) ≠ 0)) = (sd && jd (jce C (jmfc bf rb) (fun _ => false))) := by
  cases sd with
  | false => rfl
  | true =>
    rw [Bool.true_and, Bool.true_and]
    refine jd_ext ?_
    rw [jbN_none, hx 0 (by decide), jce_iff]
    unfold jnxt
    rw [jtb_0, if_pos (by rw [jd_iff.mpr (fun i _ q => by cases q)]; rfl), Ne, bI_zero]
    constructor
    · rintro (q | q)
      · exact Or.inl (fun t ht hc => by rw [← q t ht] at hc; cases hc)
      · exact Or.inr (Classical.byContradiction (fun z => q (fun u hu => jd_no.mpr (fun y => z ⟨u, y⟩))))
    · rintro (q | ⟨u, q⟩)
      · refine Or.inl (fun i hi => ?_)
        cases e : C i with
        | false => rfl
        | true => exact q i hi e
      · exact Or.inr (fun z => by have := z u q.1; rw [jd_iff.mpr q] at this; cases this)
set_option maxRecDepth 100000 in
set_option maxHeartbeats 4000000 in
theorem c_S_isPossible {l : Launch} {Θ : jxT} (hI : jxI Θ) (hC : ∀ g r, r < jrwJ g → Θ.2.2.2 g r) {σ : jxM} {C : Nat → Bool} {bf : Nat → Nat → Prop} {rb : Nat → Nat → Nat → Prop} {sd : Bool} (hz : jZs C bf rb sd σ) (hx : ∀ m, m < 256 → σ 34 0 m = jnxt C bf rb sd m)  : jxMet l y_S_isPossible b_S_isPossible 1 (some FieldType.boolean) (jrm 2) Θ [.inr (30, 0)] σ (jan (jB (sd && jd (jce C (jmfc bf rb) (fun _ => false)))) σ) := by
  refine jxMet.of (own := "HistoryJudge$SerialSearch") hI (by decide) rfl (Nat.le_of_ble_eq_true rfl) (fun Γ X => ?_)
  show jxW Γ Θ (jan (jB (sd && jd (jce C (jmfc bf rb) (fun _ => false)))) σ) 0 [some (.inr (30, 0))] [] σ
  rw [← jpo_iff hx]
  refine j_aload_n X (q := 1) d_S_isPossible_0 rfl rfl ?_
  refine j_getI X (C := jR3) (T := jT3) (N := 5) (ci := 3) (j := 4) (q := 4) d_S_isPossible_1 ju3 rfl rfl rfl (by decide) wl160 rfl (hC _ _ (by decide)) rfl hz.2.1 ?_
  refine j_bif_eq X (tgt := 19) (q := 7) d_S_isPossible_4 (by decide) rfl (fun h4 => ?_) (fun h4 => ?_)
  · have _b4 := True.intro
    refine j_iconst X (v := (nI 0)) (q := 20) d_S_isPossible_19 (by decide +kernel) rfl ?_
    refine j_zret X d_S_isPossible_20 (by decide +kernel) ?_
    exact ⟨by rw [h4]; rfl, rfl⟩
  · have _b4 := True.intro
    refine j_aload_n X (q := 8) d_S_isPossible_7 rfl rfl ?_
    refine j_iconst X (v := (nI 0)) (q := 9) d_S_isPossible_8 (by decide +kernel) rfl ?_
    refine jxW.cast rfl (show _ = [.inl (bI (fun _ => false)), .inr (30, 0)] by rw [bI_false]; rfl) rfl ?_
    refine j_callV X (n := 1) (C := jR3) (T := jT3) (N := 5) d_S_isPossible_9 (c_S_canBeEnded hI hC hz (fun _ => false)) rfl rfl (hC _ _ (by decide)) wl322 wl323 wl14 wl41 wl324 (by decide +kernel) ⟨rfl, rfl⟩ (by decide) rfl rfl (Nat.le_of_ble_eq_true rfl) rfl (q := 12) rfl (fun r9 τ9 e9 => ?_)
    obtain ⟨rfl, rfl⟩ := e9
    refine j_bif_eq X (tgt := 19) (q := 15) d_S_isPossible_12 (by decide) rfl (fun h12 => ?_) (fun h12 => ?_)
    · have _b12 := True.intro
      refine j_iconst X (v := (nI 0)) (q := 20) d_S_isPossible_19 (by decide +kernel) rfl ?_
      refine j_zret X d_S_isPossible_20 (by decide +kernel) ?_
      exact ⟨by rw [h4, h12]; rfl, rfl⟩
    · have _b12 := True.intro
      refine j_iconst X (v := (nI 1)) (q := 16) d_S_isPossible_15 (by decide +kernel) rfl ?_
      refine j_goto X (tgt := 20) d_S_isPossible_16 (by decide) ?_
      refine j_zret X d_S_isPossible_20 (by decide +kernel) ?_
      exact ⟨by rw [h4, h12]; rfl, rfl⟩
end
section
/-! The class's own face: places, states, versions, exchanges, serial orders. -/
noncomputable def jnS (C : Nat → Bool) (bf : Nat → Nat → Prop) (rb : Nat → Nat → Nat → Prop) (sd : Bool) (m t : Nat) : Bool := (sd && jd (∀ i, i < 8 → jtb m i = true → C i = true)) && jd (jnf C (jmfc bf rb) (jtb m) t)
theorem jnxt_bI {C : Nat → Bool} {bf : Nat → Nat → Prop} {rb : Nat → Nat → Nat → Prop} {sd : Bool} {m : Nat} : jnxt C bf rb sd m = bI (jnS C bf rb sd m) := by
  unfold jnxt
  by_cases e : (sd && jd (∀ i, i < 8 → jtb m i = true → C i = true)) = true
  · rw [if_pos e]; exact bI_ext (fun t _ => by unfold jnS; rw [e]; rfl)
  · rw [if_neg e, bI_n0]; exact bI_ext (fun t _ => by unfold jnS; rw [Bool.eq_false_iff.mpr e]; rfl)
theorem jbc_all : ∀ m, m < 256 → jbc (nI m) = nI ((List.range 8).filter (fun i => m.testBit i)).length := by decide +kernel
theorem jbc_bI (C : Nat → Bool) : jbc (bI C) = nI (jct C) := by
  show jbc (nI (jbN C 8)) = _
  rw [jbc_all _ (jbN_256 C)]
  unfold jct
  congr 2
  apply List.filter_congr
  intro i hi
  have := List.mem_range.mp hi
  rw [jbN_test]; simp [this]
theorem jct_8 (C : Nat → Bool) : jct C ≤ 8 := by
  unfold jct
  exact Nat.le_trans (List.length_filter_le _ _) (by simp)
/-- the least order's beginning: what the set D of those done is -/
def jlo (C : Nat → Bool) (mf : Nat → (Nat → Bool) → Prop) (n : Nat) (ρ : Nat → Nat) : Prop := jor C mf n ρ ∧ ∀ ρ', jor C mf n ρ' → jlx n ρ ρ'
theorem jlo_next {C : Nat → Bool} {bf : Nat → Nat → Prop} {rb : Nat → Nat → Nat → Prop} {n i q : Nat} {ρ : Nat → Nat} {D : Nat → Bool} (hl : jlo C (jmfc bf rb) n ρ) (hi : i < n) (hD : ∀ u, u < 8 → D u = jst ρ i u) (hq8 : q < 8) (hq : (∃ t, t < 8 ∧ jnS C bf rb true (jbN D 8) t = true) → jnS C bf rb true (jbN D 8) q = true ∧ ∀ u, u < q → jnS C bf rb true (jbN D 8) u = false) : q = ρ i := by
  have eD : jtb (jbN D 8) = jst ρ i := by
    rw [jtb_bN]
    funext u
    by_cases h : u < 8
    · simp [h, hD u h]
    · cases e : jst ρ i u with
      | false => simp [h]
      | true =>
        obtain ⟨j, hj, ej⟩ := jst_iff.mp e
        have := (hl.1.1.1 j (by omega)).1
        omega
  have hsub : ∀ u, u < 8 → jst ρ i u = true → C u = true := by
    intro u _ e
    obtain ⟨j, hj, ej⟩ := jst_iff.mp e
    rw [← ej]; exact (hl.1.1.1 j (by omega)).2
  have hS : ∀ t, jnS C bf rb true (jbN D 8) t = jd (jnf C (jmfc bf rb) (jst ρ i) t) := by
    intro t
    unfold jnS
    rw [eD, jd_iff.mpr hsub]; rfl
  obtain ⟨l1, l2⟩ := jor_least hl.1 hl.2 hi
  obtain ⟨q1, q2⟩ := hq ⟨ρ i, l1.1, by rw [hS]; exact jd_iff.mpr l1⟩
  rw [hS, jd_iff] at q1
  have h1 := l2 q q1
  refine Nat.le_antisymm (Nat.le_of_not_lt (fun z => ?_)) h1
  have := q2 (ρ i) z
  rw [hS, jd_iff.mpr l1] at this
  cases this
set_option maxRecDepth 100000 in
set_option maxHeartbeats 4000000 in
theorem c_S_transactionAt {l : Launch} {Θ : jxT} (hI : jxI Θ) (hC : ∀ g r, r < jrwJ g → Θ.2.2.2 g r) {σ : jxM} {C : Nat → Bool} {bf : Nat → Nat → Prop} {rb : Nat → Nat → Nat → Prop} {sd : Bool} (hz : jZs C bf rb sd σ) (hx : ∀ m, m < 256 → σ 34 0 m = jnxt C bf rb sd m) (x : Int32) : jxMet l y_S_transactionAt b_S_transactionAt 4 (some FieldType.int) (jrm 4) Θ [.inr (30, 0), .inl x] σ (fun r' σ' => σ = σ' ∧ ∃ v, r' = some (.inl v) ∧ ((sd && jd (jce C (jmfc bf rb) (fun _ => false))) = false ∨ jin x (jct C) = false → v = -1) ∧ ((sd && jd (jce C (jmfc bf rb) (fun _ => false))) = true → ∀ k, k < jct C → x = nI k → ∃ q, q < 8 ∧ v = nI q ∧ ∀ n ρ, jlo C (jmfc bf rb) n ρ → q = ρ k)) := by
  refine jxMet.of (own := "HistoryJudge$SerialSearch") hI (by decide) rfl (Nat.le_of_ble_eq_true rfl) (fun Γ X => ?_)
  show jxW Γ Θ (fun r' σ' => σ = σ' ∧ ∃ v, r' = some (.inl v) ∧ ((sd && jd (jce C (jmfc bf rb) (fun _ => false))) = false ∨ jin x (jct C) = false → v = -1) ∧ ((sd && jd (jce C (jmfc bf rb) (fun _ => false))) = true → ∀ k, k < jct C → x = nI k → ∃ q, q < 8 ∧ v = nI q ∧ ∀ n ρ, jlo C (jmfc bf rb) n ρ → q = ρ k)) 0 [some (.inr (30, 0)), some (.inl x), none, none] [] σ
  have b8 := jct_8 C
  refine j_aload_n X (q := 1) d_S_transactionAt_0 rfl rfl ?_
  refine j_callV X (n := 0) (C := jR3) (T := jT3) (N := 5) d_S_transactionAt_1 (c_S_isPossible hI hC hz hx) rfl rfl (hC _ _ (by decide)) wl337 wl326 wl327 wl41 wl328 (by decide +kernel) ⟨rfl, rfl⟩ (by decide) rfl rfl (Nat.le_of_ble_eq_true rfl) rfl (q := 4) rfl (fun r1 τ1 e1 => ?_)
  obtain ⟨rfl, rfl⟩ := e1
  refine j_bif_eq X (tgt := 22) (q := 7) d_S_transactionAt_4 (by decide) rfl (fun h4 => ?_) (fun h4 => ?_)
  · have _b4 := True.intro
    refine j_iconst X (v := (-1)) (q := 23) d_S_transactionAt_22 (by decide +kernel) rfl ?_
    refine j_iret X d_S_transactionAt_23 ?_
    exact ⟨rfl, -1, rfl, fun _ => rfl, fun q => by rw [h4] at q; cases q⟩
  · have _b4 := True.intro
    refine j_iload_n X (q := 8) d_S_transactionAt_7 rfl rfl ?_
    refine j_if_lt X (tgt := 22) (q := 11) d_S_transactionAt_8 (by decide) rfl (fun h8 => ?_) (fun h8 => ?_)
    · have _b8 := True.intro
      have hin : jin x (jct C) = false := jin_neg h8
      refine j_iconst X (v := (-1)) (q := 23) d_S_transactionAt_22 (by decide +kernel) rfl ?_
      refine j_iret X d_S_transactionAt_23 ?_
      exact ⟨rfl, -1, rfl, fun _ => rfl, fun _ k hk e => by subst e; rw [jin_nI (by omega), decide_eq_true hk] at hin; cases hin⟩
    · have _b8 := True.intro
      refine j_iload_n X (q := 12) d_S_transactionAt_11 rfl rfl ?_
      refine j_aload_n X (q := 13) d_S_transactionAt_12 rfl rfl ?_
      refine j_getI X (C := jR3) (T := jT3) (N := 5) (ci := 3) (j := 3) (q := 16) d_S_transactionAt_13 ju3 rfl rfl rfl (by decide) wl159 rfl (hC _ _ (by decide)) rfl hz.1 ?_
      refine j_callS X (n := 1) d_S_transactionAt_16 (c_I_bitCount hI (bI C) σ) wl338 wl339 wl50 wl340 (by decide +kernel) ⟨rfl, rfl⟩ (by decide) rfl rfl (Nat.le_of_ble_eq_true rfl) rfl (q := 19) rfl (fun r16 τ16 e16 => ?_)
      obtain ⟨rfl, rfl⟩ := e16
      rw [jbc_bI]
      refine j_icmp_lt X (tgt := 24) (q := 22) d_S_transactionAt_19 (by decide) rfl (fun h19 => ?_) (fun h19 => ?_)
      · have _b19 := True.intro
        have hin : jin x (jct C) = true := jin_yes (by omega) h8 (fun z => by
          have h1 := Int32.lt_iff_toInt_lt.mp h19
          have h2 := Int32.le_iff_toInt_le.mp z
          omega)
        obtain ⟨k, hk, ek⟩ := jin_of hin (by omega)
        have K : ∀ (N : Nat) (i : Nat) (D : Nat → Bool), 8 - i < N → i ≤ k → (∀ n ρ, jlo C (jmfc bf rb) n ρ → ∀ u, u < 8 → D u = jst ρ i u) → jxW Γ Θ (fun r' σ' => σ = σ' ∧ ∃ v, r' = some (.inl v) ∧ ((sd && jd (jce C (jmfc bf rb) (fun _ => false))) = false ∨ jin x (jct C) = false → v = -1) ∧ ((sd && jd (jce C (jmfc bf rb) (fun _ => false))) = true → ∀ k, k < jct C → x = nI k → ∃ q, q < 8 ∧ v = nI q ∧ ∀ n ρ, jlo C (jmfc bf rb) n ρ → q = ρ k)) 28 [some (.inr (30, 0)), some (.inl (nI k)), some (.inl (bI D)), some (.inl (nI i))] [] σ := by
          intro N
          induction N with
          | zero => intro i D hn; exact absurd hn (Nat.not_lt_zero _)
          | succ N ih =>
            intro i D hn hi hD
            refine j_iload_n X (q := 29) d_S_transactionAt_28 rfl rfl ?_
            refine j_iload_n X (q := 30) d_S_transactionAt_29 rfl rfl ?_
            refine j_ncmp_ge X (tgt := 54) (q := 33) d_S_transactionAt_30 (by decide) rfl (by omega) (by omega) (fun h30 => ?_) (fun h30 => ?_)
            · have _b30 := True.intro
              refine j_aload_n X (q := 55) d_S_transactionAt_54 rfl rfl ?_
              refine j_getR X (C := jR3) (T := jT3) (N := 5) (ci := 3) (j := 2) (q := 58) d_S_transactionAt_55 ju3 rfl rfl rfl (by decide) wl157 rfl (hC _ _ (by decide)) rfl ?_
              refine j_iload_n X (q := 59) d_S_transactionAt_58 rfl rfl ?_
              refine j_iald X (j := jbN D 8) (q := 60) d_S_transactionAt_59 rfl (by decide) rfl (jbN_256 D) (hC _ _ (by decide)) rfl (show _ = bI (jnS C bf rb sd (jbN D 8)) by rw [hx _ (jbN_256 _), jnxt_bI]) ?_
              refine j_callSN X (n := 1) d_S_transactionAt_60 (c_J_least hI (jnS C bf rb sd (jbN D 8)) σ) wl251 nl10 wl36 wl250 (by decide +kernel) ⟨rfl, rfl⟩ (by decide) rfl rfl (Nat.le_of_ble_eq_true rfl) rfl (q := 63) rfl (fun r60 τ60 e60 => ?_)
              obtain ⟨q, hq8, rfl, rfl, hq⟩ := e60
              refine j_iret X d_S_transactionAt_63 ?_
              have hik : i = k := by omega
              subst hik
              refine ⟨rfl, nI q, rfl, fun z => ?_, fun _ k' hk' e => ?_⟩
              · rcases z with z | z
                · rw [h4] at z; cases z
                · rw [hin] at z; cases z
              · have ek' : i = k' := (nI_eq (by omega) (by omega)).mp (ek.symm.trans e)
                subst ek'
                have hsd : sd = true := by rw [Bool.and_eq_true] at h4; exact h4.1
                subst hsd
                refine ⟨q, hq8, rfl, fun n ρ hl => ?_⟩
                have hn := jpm_len hl.1.1
                exact jlo_next hl (by omega) (hD n ρ hl) hq8 hq
            · have _b30 := True.intro
              refine j_iload_n X (q := 34) d_S_transactionAt_33 rfl rfl ?_
              refine j_aload_n X (q := 35) d_S_transactionAt_34 rfl rfl ?_
              refine j_getR X (C := jR3) (T := jT3) (N := 5) (ci := 3) (j := 2) (q := 38) d_S_transactionAt_35 ju3 rfl rfl rfl (by decide) wl157 rfl (hC _ _ (by decide)) rfl ?_
              refine j_iload_n X (q := 39) d_S_transactionAt_38 rfl rfl ?_
              refine j_iald X (j := jbN D 8) (q := 40) d_S_transactionAt_39 rfl (by decide) rfl (jbN_256 D) (hC _ _ (by decide)) rfl (show _ = bI (jnS C bf rb sd (jbN D 8)) by rw [hx _ (jbN_256 _), jnxt_bI]) ?_
              refine j_callSN X (n := 1) d_S_transactionAt_40 (c_J_least hI (jnS C bf rb sd (jbN D 8)) σ) wl251 nl10 wl36 wl250 (by decide +kernel) ⟨rfl, rfl⟩ (by decide) rfl rfl (Nat.le_of_ble_eq_true rfl) rfl (q := 43) rfl (fun r40 τ40 e40 => ?_)
              obtain ⟨q, hq8, rfl, rfl, hq⟩ := e40
              refine j_callSN X (n := 1) d_S_transactionAt_43 (c_J_only hI hq8 σ) wl208 nl9 wl36 wl207 (by decide +kernel) ⟨rfl, rfl⟩ (by decide) rfl rfl (Nat.le_of_ble_eq_true rfl) rfl (q := 46) rfl (fun r43 τ43 e43 => ?_)
              obtain ⟨rfl, rfl⟩ := e43
              refine j_ior X (q := 47) d_S_transactionAt_46 rfl ?_
              refine j_istore_n X (j := 2) (q := 48) d_S_transactionAt_47 rfl (Nat.le_of_ble_eq_true rfl) rfl ?_
              refine j_iinc X (q := 51) d_S_transactionAt_48 rfl (j_inc1 _) rfl ?_
              refine j_goto X (tgt := 28) d_S_transactionAt_51 (by decide) ?_
              rw [bI_or]
              refine jxW.to (L' := [some (.inr (30, 0)), some (.inl (nI k)), some (.inl (bI (jad D q))), some (.inl (nI (i + 1)))]) (by simp [jfg]; rfl) ?_
              refine ih (i + 1) (jad D q) (by omega) (by omega) (fun n ρ hl u hu => ?_)
              have hsd : sd = true := by rw [Bool.and_eq_true] at h4; exact h4.1
              subst hsd
              have hn := jpm_len hl.1.1
              have eq := jlo_next hl (by omega) (hD n ρ hl) hq8 hq
              rw [jst_ad, ← eq]
              unfold jad
              rw [hD n ρ hl u hu]
        refine j_iconst X (v := (nI 0)) (q := 25) d_S_transactionAt_24 (by decide +kernel) rfl ?_
        refine j_istore_n X (j := 2) (q := 26) d_S_transactionAt_25 rfl (Nat.le_of_ble_eq_true rfl) rfl ?_
        refine j_iconst X (v := (nI 0)) (q := 27) d_S_transactionAt_26 (by decide +kernel) rfl ?_
        refine j_istore_n X (j := 3) (q := 28) d_S_transactionAt_27 rfl (Nat.le_of_ble_eq_true rfl) rfl ?_
        refine jxW.to (L' := [some (.inr (30, 0)), some (.inl (nI k)), some (.inl (bI (fun _ => false))), some (.inl (nI 0))]) (by simp [jfg, bI_n0, ek]) ?_
        exact K 9 0 (fun _ => false) (by omega) (by omega) (fun n ρ _ u _ => rfl)
      · have _b19 := True.intro
        have hin : jin x (jct C) = false := jin_big (by omega) (Int32.le_iff_toInt_le.mpr (by
          have : ¬ x.toInt < (nI (jct C)).toInt := fun z => h19 (Int32.lt_iff_toInt_lt.mpr z)
          omega))
        refine j_iconst X (v := (-1)) (q := 23) d_S_transactionAt_22 (by decide +kernel) rfl ?_
        refine j_iret X d_S_transactionAt_23 ?_
        exact ⟨rfl, -1, rfl, fun _ => rfl, fun _ k hk e => by subst e; rw [jin_nI (by omega), decide_eq_true hk] at hin; cases hin⟩
set_option maxRecDepth 100000 in
set_option maxHeartbeats 4000000 in
theorem c_J_state {l : Launch} {Θ : jxT} (hI : jxI Θ) (hC : ∀ g r, r < jrwJ g → Θ.2.2.2 g r) {h : jH} {σ : jxM} (hw : jHw h) (hs : jHs h σ) (x : Int32) : jxMet l y_J_state b_J_state 2 (some FieldType.int) (jrm 2) Θ [.inr (0, 0), .inl x] σ (jan (if jin x 8 = true then nI (hyS h x.toNatClampNeg) else -1) σ) := by
  refine jxMet.of (own := "HistoryJudge") hI (by decide) rfl (Nat.le_of_ble_eq_true rfl) (fun Γ X => ?_)
  show jxW Γ Θ (jan (if jin x 8 = true then nI (hyS h x.toNatClampNeg) else -1) σ) 0 [some (.inr (0, 0)), some (.inl x)] [] σ
  refine j_iload_n X (q := 1) d_J_state_0 rfl rfl ?_
  refine j_callS X (n := 1) d_J_state_1 (c_J_isTransaction hI x σ) wl178 wl179 wl36 wl180 (by decide +kernel) ⟨rfl, rfl⟩ (by decide) rfl rfl (Nat.le_of_ble_eq_true rfl) rfl (q := 4) rfl (fun r1 τ1 e1 => ?_)
  obtain ⟨rfl, rfl⟩ := e1
  refine j_bif_eq X (tgt := 19) (q := 7) d_J_state_4 (by decide) rfl (fun h4 => ?_) (fun h4 => ?_)
  · have _b4 := True.intro
    refine j_iconst X (v := (-1)) (q := 20) d_J_state_19 (by decide +kernel) rfl ?_
    refine j_iret X d_J_state_20 ?_
    exact ⟨by rw [if_neg (by rw [h4]; exact Bool.false_ne_true)], rfl⟩
  · have _b4 := True.intro
    obtain ⟨k, hk, rfl⟩ := jin_of h4 (by decide)
    refine j_aload_n X (q := 8) d_J_state_7 rfl rfl ?_
    refine j_getR X (C := jR4) (T := jT4) (N := 4) (ci := 4) (j := 0) (q := 11) d_J_state_8 ju4 rfl rfl rfl (by decide) wl166 rfl (hC _ _ (by decide)) rfl ?_
    refine j_getR X (C := jR2) (T := jT2) (N := 12) (ci := 2) (j := 0) (q := 14) d_J_state_11 ju2 rfl rfl rfl (by decide) wl74 rfl (hC _ _ (by decide)) rfl ?_
    refine j_iload_n X (q := 15) d_J_state_14 rfl rfl ?_
    refine j_iald X (q := 16) d_J_state_15 rfl (by decide) rfl hk (hC _ _ (by decide)) rfl (jHs_S hs hk) ?_
    refine j_goto X (tgt := 20) d_J_state_16 (by decide) ?_
    refine j_iret X d_J_state_20 ?_
    exact ⟨by rw [if_pos h4, nI_clamp (by omega)], rfl⟩
set_option maxRecDepth 100000 in
set_option maxHeartbeats 4000000 in
theorem c_J_version {l : Launch} {Θ : jxT} (hI : jxI Θ) (hC : ∀ g r, r < jrwJ g → Θ.2.2.2 g r) {h : jH} {σ : jxM} (hw : jHw h) (hs : jHs h σ) (x i : Int32) : jxMet l y_J_version b_J_version 3 (some FieldType.int) (jrm 2) Θ [.inr (0, 0), .inl x, .inl i] σ (jan (if jin x 6 = true ∧ jin i (hyon h x.toNatClampNeg) = true then nI (hyod h x.toNatClampNeg i.toNatClampNeg) else -1) σ) := by
  refine jxMet.of (own := "HistoryJudge") hI (by decide) rfl (Nat.le_of_ble_eq_true rfl) (fun Γ X => ?_)
  show jxW Γ Θ (jan (if jin x 6 = true ∧ jin i (hyon h x.toNatClampNeg) = true then nI (hyod h x.toNatClampNeg i.toNatClampNeg) else -1) σ) 0 [some (.inr (0, 0)), some (.inl x), some (.inl i)] [] σ
  refine j_iload_n X (q := 1) d_J_version_0 rfl rfl ?_
  refine j_callS X (n := 1) d_J_version_1 (c_J_isItem hI x σ) wl185 wl186 wl36 wl187 (by decide +kernel) ⟨rfl, rfl⟩ (by decide) rfl rfl (Nat.le_of_ble_eq_true rfl) rfl (q := 4) rfl (fun r1 τ1 e1 => ?_)
  obtain ⟨rfl, rfl⟩ := e1
  refine j_bif_eq X (tgt := 24) (q := 7) d_J_version_4 (by decide) rfl (fun h4 => ?_) (fun h4 => ?_)
  · have _b4 := True.intro
    refine j_iconst X (v := (-1)) (q := 25) d_J_version_24 (by decide +kernel) rfl ?_
    refine j_iret X d_J_version_25 ?_
    exact ⟨by rw [if_neg (fun q => by rw [h4] at q; cases q.1)], rfl⟩
  · have _b4 := True.intro
    obtain ⟨k, hk, rfl⟩ := jin_of h4 (by decide)
    have ck : (nI k).toNatClampNeg = k := nI_clamp (by omega)
    have bO := jHw_on hw hk
    refine j_iload_n X (q := 8) d_J_version_7 rfl rfl ?_
    refine j_if_lt X (tgt := 24) (q := 11) d_J_version_8 (by decide) rfl (fun h8 => ?_) (fun h8 => ?_)
    · have _b8 := True.intro
      have hb : ¬ (jin (nI k) 6 = true ∧ jin i (hyon h (nI k).toNatClampNeg) = true) := fun q => by rw [jin_neg h8] at q; cases q.2
      refine j_iconst X (v := (-1)) (q := 25) d_J_version_24 (by decide +kernel) rfl ?_
      refine j_iret X d_J_version_25 ?_
      exact ⟨by rw [if_neg hb], rfl⟩
    · have _b8 := True.intro
      refine j_iload_n X (q := 12) d_J_version_11 rfl rfl ?_
      refine j_aload_n X (q := 13) d_J_version_12 rfl rfl ?_
      refine j_getR X (C := jR4) (T := jT4) (N := 4) (ci := 4) (j := 0) (q := 16) d_J_version_13 ju4 rfl rfl rfl (by decide) wl166 rfl (hC _ _ (by decide)) rfl ?_
      refine j_getR X (C := jR2) (T := jT2) (N := 12) (ci := 2) (j := 11) (q := 19) d_J_version_16 ju2 rfl rfl rfl (by decide) wl102 rfl (hC _ _ (by decide)) rfl ?_
      refine j_iload_n X (q := 20) d_J_version_19 rfl rfl ?_
      refine j_iald X (q := 21) d_J_version_20 rfl (by decide) rfl hk (hC _ _ (by decide)) rfl (jHs_on hs hk) ?_
      refine j_icmp_lt X (tgt := 26) (q := 24) d_J_version_21 (by decide) rfl (fun h21 => ?_) (fun h21 => ?_)
      · have _b21 := True.intro
        have hin : jin i (hyon h k) = true := jin_yes (by omega) h8 (fun z => by
          have h1 := Int32.lt_iff_toInt_lt.mp h21
          have h2 := Int32.le_iff_toInt_le.mp z
          omega)
        obtain ⟨j, hj, rfl⟩ := jin_of hin (by omega)
        refine j_aload_n X (q := 27) d_J_version_26 rfl rfl ?_
        refine j_getR X (C := jR4) (T := jT4) (N := 4) (ci := 4) (j := 0) (q := 30) d_J_version_27 ju4 rfl rfl rfl (by decide) wl166 rfl (hC _ _ (by decide)) rfl ?_
        refine j_getR X (C := jR2) (T := jT2) (N := 12) (ci := 2) (j := 10) (q := 33) d_J_version_30 ju2 rfl rfl rfl (by decide) wl99 rfl (hC _ _ (by decide)) rfl ?_
        refine j_iload_n X (q := 34) d_J_version_33 rfl rfl ?_
        refine j_aald X (q := 35) d_J_version_34 rfl (by decide) rfl hk (hC _ _ (by decide)) rfl ?_
        refine j_iload_n X (q := 36) d_J_version_35 rfl rfl ?_
        refine j_iald X (q := 37) d_J_version_36 rfl (by decide) rfl (by omega) (hC _ _ (by show _ < 6; omega)) rfl (jHs_od hs hk hj) ?_
        refine j_iret X d_J_version_37 ?_
        exact ⟨by rw [if_pos ⟨h4, by rw [ck]; exact hin⟩, ck, nI_clamp (show j < 2 ^ 31 by omega)], rfl⟩
      · have _b21 := True.intro
        have hb : ¬ (jin (nI k) 6 = true ∧ jin i (hyon h (nI k).toNatClampNeg) = true) := fun q => by
          rw [ck, jin_big (x := i) (n := hyon h k) (by omega) (Int32.le_iff_toInt_le.mpr (by
            have : ¬ i.toInt < (nI (hyon h k)).toInt := fun z => h21 (Int32.lt_iff_toInt_lt.mpr z)
            omega))] at q
          cases q.2
        refine j_iconst X (v := (-1)) (q := 25) d_J_version_24 (by decide +kernel) rfl ?_
        refine j_iret X d_J_version_25 ?_
        exact ⟨by rw [if_neg hb], rfl⟩
set_option maxRecDepth 100000 in
set_option maxHeartbeats 4000000 in
theorem c_J_exchange {l : Launch} {Θ : jxT} (hI : jxI Θ) (hC : ∀ g r, r < jrwJ g → Θ.2.2.2 g r) {h : jH} {σ : jxM} (hw : jHw h) (hs : jHs h σ) (x i : Int32) : jxMet l y_J_exchange b_J_exchange 5 (some FieldType.boolean) (jrm 2) Θ [.inr (0, 0), .inl x, .inl i] σ (fun r' σ' => (∃ b : Bool, r' = some (.inl (jB b)) ∧ (b = true ↔ jin x 6 = true ∧ jin i (hyon h x.toNatClampNeg - 1) = true) ∧ (b = false → σ = σ') ∧ (b = true → jHs (jexc h x.toNatClampNeg i.toNatClampNeg) σ')) ∧ ∀ g, 14 ≤ g → σ' g = σ g) := by
  refine jxMet.of (own := "HistoryJudge") hI (by decide) rfl (Nat.le_of_ble_eq_true rfl) (fun Γ X => ?_)
  show jxW Γ Θ (fun r' σ' => (∃ b : Bool, r' = some (.inl (jB b)) ∧ (b = true ↔ jin x 6 = true ∧ jin i (hyon h x.toNatClampNeg - 1) = true) ∧ (b = false → σ = σ') ∧ (b = true → jHs (jexc h x.toNatClampNeg i.toNatClampNeg) σ')) ∧ ∀ g, 14 ≤ g → σ' g = σ g) 0 [some (.inr (0, 0)), some (.inl x), some (.inl i), none, none] [] σ
  refine j_iload_n X (q := 1) d_J_exchange_0 rfl rfl ?_
  refine j_callS X (n := 1) d_J_exchange_1 (c_J_isItem hI x σ) wl185 wl186 wl36 wl187 (by decide +kernel) ⟨rfl, rfl⟩ (by decide) rfl rfl (Nat.le_of_ble_eq_true rfl) rfl (q := 4) rfl (fun r1 τ1 e1 => ?_)
  obtain ⟨rfl, rfl⟩ := e1
  refine j_bif_eq X (tgt := 26) (q := 7) d_J_exchange_4 (by decide) rfl (fun h4 => ?_) (fun h4 => ?_)
  · have _b4 := True.intro
    have hb : ¬ (jin x 6 = true ∧ jin i (hyon h x.toNatClampNeg - 1) = true) := fun q => by rw [h4] at q; cases q.1
    refine j_iconst X (v := (nI 0)) (q := 27) d_J_exchange_26 (by decide +kernel) rfl ?_
    refine j_zret X d_J_exchange_27 (by decide +kernel) ?_
    exact ⟨⟨false, rfl, ⟨fun q => (by cases q), fun q => absurd q hb⟩, fun _ => rfl, fun q => (by cases q)⟩, fun _ _ => rfl⟩
  · have _b4 := True.intro
    obtain ⟨k, hk, rfl⟩ := jin_of h4 (by decide)
    have ck : (nI k).toNatClampNeg = k := nI_clamp (by omega)
    have bO := jHw_on hw hk
    refine j_iload_n X (q := 8) d_J_exchange_7 rfl rfl ?_
    refine j_if_lt X (tgt := 26) (q := 11) d_J_exchange_8 (by decide) rfl (fun h8 => ?_) (fun h8 => ?_)
    · have _b8 := True.intro
      have hb : ¬ (jin (nI k) 6 = true ∧ jin i (hyon h (nI k).toNatClampNeg - 1) = true) := fun q => by rw [jin_neg h8] at q; cases q.2
      refine j_iconst X (v := (nI 0)) (q := 27) d_J_exchange_26 (by decide +kernel) rfl ?_
      refine j_zret X d_J_exchange_27 (by decide +kernel) ?_
      exact ⟨⟨false, rfl, ⟨fun q => (by cases q), fun q => absurd q hb⟩, fun _ => rfl, fun q => (by cases q)⟩, fun _ _ => rfl⟩
    · have _b8 := True.intro
      refine j_iload_n X (q := 12) d_J_exchange_11 rfl rfl ?_
      refine j_aload_n X (q := 13) d_J_exchange_12 rfl rfl ?_
      refine j_getR X (C := jR4) (T := jT4) (N := 4) (ci := 4) (j := 0) (q := 16) d_J_exchange_13 ju4 rfl rfl rfl (by decide) wl166 rfl (hC _ _ (by decide)) rfl ?_
      refine j_getR X (C := jR2) (T := jT2) (N := 12) (ci := 2) (j := 11) (q := 19) d_J_exchange_16 ju2 rfl rfl rfl (by decide) wl102 rfl (hC _ _ (by decide)) rfl ?_
      refine j_iload_n X (q := 20) d_J_exchange_19 rfl rfl ?_
      refine j_iald X (q := 21) d_J_exchange_20 rfl (by decide) rfl hk (hC _ _ (by decide)) rfl (jHs_on hs hk) ?_
      refine j_iconst X (v := (nI 1)) (q := 22) d_J_exchange_21 (by decide +kernel) rfl ?_
      refine j_isub X (q := 23) d_J_exchange_22 rfl ?_
      refine j_icmp_lt X (tgt := 28) (q := 26) d_J_exchange_23 (by decide) rfl (fun h23 => ?_) (fun h23 => ?_)
      · have _b23 := True.intro
        have hin : jin i (hyon h k - 1) = true ∧ 1 ≤ hyon h k := by
          have h1 := Int32.lt_iff_toInt_lt.mp h23
          rw [show nI (hyon h k) - nI 1 = nI (hyon h k) - nI 1 from rfl, pk_sub_toInt (by omega) (by omega)] at h1
          have h0 : ¬ i.toInt < (0 : Int32).toInt := fun q => h8 (Int32.lt_iff_toInt_lt.mpr q)
          have e0 : (0 : Int32).toInt = 0 := by decide +kernel
          rw [e0] at h0
          unfold jin
          rw [decide_eq_true_eq]
          omega
        obtain ⟨j, hj, rfl⟩ := jin_of hin.1 (by omega)
        have cj : (nI j).toNatClampNeg = j := nI_clamp (by omega)
        refine j_aload_n X (q := 29) d_J_exchange_28 rfl rfl ?_
        refine j_getR X (C := jR4) (T := jT4) (N := 4) (ci := 4) (j := 0) (q := 32) d_J_exchange_29 ju4 rfl rfl rfl (by decide) wl166 rfl (hC _ _ (by decide)) rfl ?_
        refine j_getR X (C := jR2) (T := jT2) (N := 12) (ci := 2) (j := 10) (q := 35) d_J_exchange_32 ju2 rfl rfl rfl (by decide) wl99 rfl (hC _ _ (by decide)) rfl ?_
        refine j_iload_n X (q := 36) d_J_exchange_35 rfl rfl ?_
        refine j_aald X (q := 37) d_J_exchange_36 rfl (by decide) rfl hk (hC _ _ (by decide)) rfl ?_
        refine j_astore_n X (j := 3) (q := 38) d_J_exchange_37 rfl (Nat.le_of_ble_eq_true rfl) rfl ?_
        refine j_aload_n X (q := 39) d_J_exchange_38 rfl rfl ?_
        refine j_iload_n X (q := 40) d_J_exchange_39 rfl rfl ?_
        refine j_iald X (q := 41) d_J_exchange_40 rfl (by decide) rfl (by omega) (hC _ _ (by show _ < 6; omega)) rfl (jHs_od hs hk (by omega)) ?_
        refine j_istore X (q := 43) d_J_exchange_41 (Nat.le_of_ble_eq_true rfl) rfl ?_
        refine j_aload_n X (q := 44) d_J_exchange_43 rfl rfl ?_
        refine j_iload_n X (q := 45) d_J_exchange_44 rfl rfl ?_
        refine j_aload_n X (q := 46) d_J_exchange_45 rfl rfl ?_
        refine j_iload_n X (q := 47) d_J_exchange_46 rfl rfl ?_
        refine j_iconst X (v := (nI 1)) (q := 48) d_J_exchange_47 (by decide +kernel) rfl ?_
        refine j_iadd X (q := 49) d_J_exchange_48 rfl ?_
        refine j_iald X (j := j + 1) (q := 50) d_J_exchange_49 rfl (by decide) (nI_add j 1) (by omega) (hC _ _ (by show _ < 6; omega)) rfl (jHs_od hs hk (by omega)) ?_
        refine j_iast X (q := 51) d_J_exchange_50 rfl (by decide) rfl (by omega) (hC _ _ (by show _ < 6; omega)) rfl ?_
        refine j_aload_n X (q := 52) d_J_exchange_51 rfl rfl ?_
        refine j_iload_n X (q := 53) d_J_exchange_52 rfl rfl ?_
        refine j_iconst X (v := (nI 1)) (q := 54) d_J_exchange_53 (by decide +kernel) rfl ?_
        refine j_iadd X (q := 55) d_J_exchange_54 rfl ?_
        refine j_iload X (q := 57) d_J_exchange_55 rfl rfl ?_
        refine j_iast X (j := j + 1) (q := 58) d_J_exchange_57 rfl (by decide) (nI_add j 1) (by omega) (hC _ _ (by show _ < 6; omega)) rfl ?_
        refine j_iconst X (v := (nI 1)) (q := 59) d_J_exchange_58 (by decide +kernel) rfl ?_
        refine j_zret X d_J_exchange_59 (by decide +kernel) ?_
        refine ⟨⟨true, rfl, ⟨fun _ => ⟨h4, by rw [ck]; exact hin.1⟩, fun _ => rfl⟩, fun q => (by cases q), fun _ => ?_⟩, fun g hg => by rw [jxs_g _ _ _ _ _ (by omega), jxs_g _ _ _ _ _ (by omega)]⟩
        rw [ck, cj]
        exact jHs_exc hs (by omega)
      · have _b23 := True.intro
        have hb : ¬ (jin (nI k) 6 = true ∧ jin i (hyon h (nI k).toNatClampNeg - 1) = true) := fun q => by
          have q2 := q.2
          rw [ck] at q2
          obtain ⟨j, hj, rfl⟩ := jin_of q2 (by omega)
          refine h23 (Int32.lt_iff_toInt_lt.mpr ?_)
          rw [pk_sub_toInt (by omega) (by omega), nI_toInt (by omega)]
          omega
        refine j_iconst X (v := (nI 0)) (q := 27) d_J_exchange_26 (by decide +kernel) rfl ?_
        refine j_zret X d_J_exchange_27 (by decide +kernel) ?_
        exact ⟨⟨false, rfl, ⟨fun q => (by cases q), fun q => absurd q hb⟩, fun _ => rfl, fun q => (by cases q)⟩, fun _ _ => rfl⟩
end
