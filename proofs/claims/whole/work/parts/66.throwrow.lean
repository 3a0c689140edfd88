/-! Throws: what a state says of exceptions stays; the row of 'throw new E()'. -/
theorem jxlS_keep {s U : State} {n d : String} (hW : s.WarmedH U.vm) (hst : ∀ (q : Nat) (cell : Cell), s.heap[q]? = some cell → cell.vm.isStatics = true → U.heap[q]? = some cell) (h : (Cond.laysStatic "java/lang/Throwable" n d).before #[] s = true) : (Cond.laysStatic "java/lang/Throwable" n d).before #[] U = true := by
  have h := Cond.laysStatic_setVm hW.alike h
  obtain ⟨c, k, i, f, a, cell, hc, hi, hs, ha, hcell, hiss, hcls, hlt, hty⟩ := Cond.laysStatic_spec h
  exact Cond.laysStatic_of (s := U) hc hi hs ha (hst a cell hcell hiss) hiss hcls hlt hty
theorem jxrS_keep {s U : State} {n d : String} (hW : s.WarmedH U.vm) (hst : ∀ (q : Nat) (cell : Cell), s.heap[q]? = some cell → cell.vm.isStatics = true → U.heap[q]? = some cell) (hl : (Cond.laysStatic "java/lang/Throwable" n d).before #[] s = true) (h : (Cond.isRef (.static "java/lang/Throwable" n d)).before #[] s = true) : (Cond.isRef (.static "java/lang/Throwable" n d)).before #[] U = true := by
  have hl := Cond.laysStatic_setVm hW.alike hl
  obtain ⟨c, k, i, f, a, cell, hc, hi, hs, ha, hcell, hiss, hcls, hlt, hty⟩ := Cond.laysStatic_spec hl
  have h : (Cond.isRef (.static "java/lang/Throwable" n d)).before #[] (s.setVm U.vm) = true := Cond.before_shiftedFace (State.Shifted.of_warmed hW) _ rfl h
  have hcell' := hst a cell hcell hiss
  have hi' : U.fieldFound? "java/lang/Throwable" n d = some (c, k, i, f) := hi
  have hcell : s.heap[a]? = some cell := hcell
  simp only [Cond.before, Cond.holds, Cond.value, Term.eval, State.fieldNamed?, hi, hi'] at h ⊢
  simp [hs, ha, hcell, hiss, State.setVm] at h
  simp [hs, ha, hcell', hiss]
  exact h
theorem jxZ.keep {s U : State} (h : jxZ s) (hW : s.WarmedH U.vm) (hst : ∀ (q : Nat) (cell : Cell), s.heap[q]? = some cell → cell.vm.isStatics = true → U.heap[q]? = some cell) : jxZ U := by
  obtain ⟨h1, ⟨l1, l2, r1, r2⟩, h3⟩ := h
  refine ⟨fun w hw => ?_, ⟨jxlS_keep hW hst l1, jxlS_keep hW hst l2, jxrS_keep hW hst l1 r1, jxrS_keep hW hst l2 r2⟩, fun q hq => ?_⟩
  · obtain ⟨f1, f2⟩ := jWx_face w hw
    have h0 := Cond.before_shiftedFace (State.Shifted.of_warmed hW) w f2 (h1 w hw)
    rw [Cond.onTables_vm (A' := #[]) (U' := U) U.vm w f1, State.setVm_self] at h0
    exact h0
  · obtain ⟨a, b, e1, e2, e3⟩ := h3 q hq
    exact ⟨a, b, by rw [hW.alike.findClass]; exact e1, by rw [hW.alike.findClass]; exact e2, by rw [hW.alike.assignable]; exact e3⟩
theorem jxZ.calling {U : State} (h : jxZ U) (g : JFrame) (mk : MethodId) (a : Array Value) : jxZ (U.calling g mk a) := h.keep (State.WarmedH.refl U) (fun _ _ q _ => q)
/-- the words of one exception, at a state -/
theorem jxZ.own {U : State} {args : Array Value} (h : jxZ U) (hts : ∀ w ∈ jW, w.before args U = true) {q : Nat × String} (hq : q ∈ jxEs) : ∀ a ∈ Bundle.ownAtoms0 "HistoryJudge" q.1 q.2 jxUp, a.before args U = true := by
  intro a ha
  obtain ⟨h1, ⟨l1, l2, r1, r2⟩, -⟩ := h
  rcases jxo q hq a ha with z | z | rfl | rfl | rfl | rfl
  · exact hts a z
  · have := h1 a z
    rw [← State.setVm_self U] at this ⊢
    rw [Cond.onTables_vm (A' := #[]) (U' := U) U.vm a (jWx_face a z).1]
    exact this
  · exact l1
  · exact l2
  · exact r1
  · exact r2
