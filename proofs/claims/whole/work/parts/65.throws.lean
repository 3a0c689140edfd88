/-! Throws: the walk begun anew at the throw; the words that an exception's making asks. -/
theorem jst_again {p : Program} {l : Launch} {e : Env} {R : Room} {s : State} {m : MethodId} {args : Array Value} {below : List Frame} {meth : Method} {c : Code} {T : State} {locs : List Loc} {cells slots : Nat}
    (X : Stand p l e R s m args below meth c T locs cells slots) (h1 : cells ≤ R.cells) (h2 : slots ≤ R.slots) : Stand p l e { R with cells := R.cells - cells, slots := R.slots - slots } (T.setFrames (.invoking m args :: below)) m args below meth c T [] 0 0 := by
  obtain ⟨g₀, hfr⟩ := X.frames_eq
  have hcur : T.cur < T.threads.size := State.cur_lt_of_frames hfr
  have hF : (T.setFrames (.invoking m args :: below)).frames = .invoking m args :: below := State.frames_setFrames _ hcur
  have hm' : (T.setFrames (.invoking m args :: below)).vm.method? m = some meth := X.method'
  have hU : (T.setFrames (.invoking m args :: below)).localsInUse = s.localsInUse := by
    rw [State.localsInUse_invoking hF hm' X.code, State.localsInUse_invoking X.frames X.method X.code]
  have hcode : ∀ mm : MethodId, (T.setFrames (.invoking m args :: below)).code? mm = s.code? mm := fun mm => by
    rw [State.code?_eq, State.code?_eq]
    show (T.vm.method? mm).bind _ = _
    rw [X.warmed.alike.method?]
  have hmeth : ∀ mm : MethodId, (T.setFrames (.invoking m args :: below)).vm.method? mm = s.vm.method? mm := fun mm => X.warmed.alike.method? mm
  refine ⟨X.admits, X.cas, X.clock, hF, ?_, ?_, hm', X.code, X.here, X.tail, State.WarmedH.refl _, by rw [State.stackLimits_setFrames], by rw [State.stackBytes_setFrames], ?_⟩
  · have h := X.room
    have hc := X.heapSize
    have hu := X.used
    simp only [State.hasRoom, Bool.and_eq_true, decide_eq_true_eq] at h ⊢
    obtain ⟨⟨⟨⟨a1, a2, a3, a4, a5, a6⟩, a7⟩, a8⟩, a9⟩ := h
    rw [hU, hF, State.stackLimits_setFrames, State.stackBytes_setFrames, X.limits, X.bytes]
    rw [X.frames] at a2 a3
    refine ⟨⟨⟨⟨a1, a2, a3, a4, a5, a6⟩, ?_⟩, ?_⟩, X.book⟩
    · show T.heap.size + (R.cells - cells) ≤ _
      omega
    · show T.slotsUsed + (R.slots - slots) ≤ _
      omega
  · have h := X.hears
    cases hb : below with
    | nil => rw [hb] at h; simp only [State.hears] at h ⊢; rw [← hb, hmeth]; exact h
    | cons f r =>
      rw [hb] at h
      cases f <;> simp only [State.hears] at h ⊢ <;> first | (rw [← hb, hcode]; exact h) | (rw [← hb, hmeth]; exact h) | exact h
  · have hself : T = { (T.setFrames (.invoking m args :: below)).setFrames T.frames with heap := T.heap, slotsUsed := T.slotsUsed } := by
      obtain ⟨t, ht, -⟩ := State.frames_cons hfr
      rw [State.setFrames_setFrames, State.setFrames_self ht]
    refine ⟨hself, Nat.le_refl _, Nat.le_refl _, ?_, ?_, fun a cell h => ⟨cell, h, rfl, rfl, fun i _ => rfl⟩⟩
    · show T.slotsUsed = T.slotsUsed + ((T.heap.toList.drop T.heap.size).map (·.slots.size)).sum
      rw [List.drop_of_length_le (by simp)]
      rfl
    · show ((T.heap.toList.drop T.heap.size).map (·.slots.size)).sum ≤ 0
      rw [List.drop_of_length_le (by simp)]
      exact Nat.le_refl _
/-- words beside those of jW -/
abbrev jxIAE : String := "java/lang/IllegalArgumentException"
abbrev jxISE : String := "java/lang/IllegalStateException"
abbrev jxUOE : String := "java/lang/UnsupportedOperationException"
abbrev jxNSE : String := "java/util/NoSuchElementException"
def jxUp : List String := ["java/lang/RuntimeException", "java/lang/Exception"]
def jxr1 : Cond := .isRef (.static "java/lang/Throwable" "UNASSIGNED_STACK" "[Ljava/lang/StackTraceElement;")
def jxr2 : Cond := .isRef (.static "java/lang/Throwable" "SUPPRESSED_SENTINEL" "Ljava/util/List;")
def jxl1 : Cond := .laysStatic "java/lang/Throwable" "UNASSIGNED_STACK" "[Ljava/lang/StackTraceElement;"
def jxl2 : Cond := .laysStatic "java/lang/Throwable" "SUPPRESSED_SENTINEL" "Ljava/util/List;"
def jWx : List Cond := (Bundle.ownAtoms0 "HistoryJudge" 46 jxIAE jxUp ++ Bundle.ownAtoms0 "HistoryJudge" 52 jxISE jxUp ++ Bundle.ownAtoms0 "HistoryJudge" 59 jxUOE jxUp ++ Bundle.ownAtoms0 "HistoryJudge" 70 jxNSE jxUp).filter (fun w => !decide (w ∈ jW) && w.onTables)
theorem jWx_face : ∀ w ∈ jWx, w.onTables = true ∧ w.keepsFace = true := by decide +kernel
theorem jWx_tbl : ∀ w ∈ jWx, w ∈ lw_tbl := by decide +kernel
theorem jxl_tbl : jxl1 ∈ lw_tbl ∧ jxl2 ∈ lw_tbl := by decide +kernel
def jxEs : List (Nat × String) := [(46, jxIAE), (52, jxISE), (59, jxUOE), (70, jxNSE)]
theorem jxo : ∀ q ∈ jxEs, ∀ a ∈ Bundle.ownAtoms0 "HistoryJudge" q.1 q.2 jxUp, a ∈ jW ∨ a ∈ jWx ∨ a = jxl1 ∨ a = jxl2 ∨ a = jxr1 ∨ a = jxr2 := by decide +kernel
/-- which exceptions are not of which class -/
def jxprs : List (String × String) := [(jxISE, jxIAE), (jxUOE, jxIAE), (jxUOE, jxISE), (jxNSE, jxIAE), (jxISE, jxNSE), (jxUOE, jxNSE)]
/-- what a state must say so that exceptions can be made and caught -/
def jxZ (U : State) : Prop := (∀ w ∈ jWx, w.before #[] U = true) ∧ (jxl1.before #[] U = true ∧ jxl2.before #[] U = true ∧ jxr1.before #[] U = true ∧ jxr2.before #[] U = true) ∧ ∀ q ∈ jxprs, ∃ a b, U.vm.findClass q.1 = some a ∧ U.vm.findClass q.2 = some b ∧ U.vm.assignable a b = false
