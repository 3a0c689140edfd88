/-! The row of 'throw new E()', and the contract of a method that throws. -/
theorem jsame_nil {s t : State} {c n : Nat} (h : s.sameButNew t [] c n) : ∀ q : Nat, q < s.heap.size → t.heap[q]? = s.heap[q]? := by
  intro q hq
  obtain ⟨cell, hc⟩ : ∃ cell, s.heap[q]? = some cell := ⟨_, Array.getElem?_eq_getElem hq⟩
  obtain ⟨c', h1, h2, h3, h4⟩ := h.2.2.2.2.2 q cell hc
  rw [h1, hc, h2]
  have : c'.slots = cell.slots := by
    apply Array.ext_getElem?
    intro i
    exact h4 i (by simp)
  rw [this]
/-- how 'throw new E()' ends, from a state at which nothing is made yet -/
def jxE0 (below : List Frame) (E : String) (s : State) : State → Prop := fun t => ∃ (a : Addr) (cell : Cell), t.status = .running ∧ Ended t below (.threw a) ∧ s.heap.size ≤ a ∧ t.heap[a]? = some cell ∧ cell.vm = .none ∧ s.vm.findClass E = some cell.cls ∧ s.WarmedH t.vm ∧ s.sameButNew ({ t with vm := s.vm } : State) [] 1 6
theorem jthrow0 {p : Program} {l : Launch} {e : Env} {R : Room} {s : State} {m : MethodId} {args : Array Value} {below : List Frame} {meth : Method} {c : Code} {cc : ByteArray} {pc idx ic nL : Nat} {ls : Array Slot} {E : String} (hx : p.tables.exec = Jvm.exec) (hb : c.code = cc) (hml : c.maxLocals = nL) (hls : ls.size = nL) (hlk : meth.locks = false) (hown : s.vm.findClass "HistoryJudge" = some m.cls) (htr : l.stackTraces = false) (hE : (ic, E) ∈ jxEs)
    (hz : jxZ s) (hts : ∀ w ∈ jW, w.before args s = true) (w1 : Cond.classLink "HistoryJudge" idx E ∈ jW) (w2 : Cond.instantiable E 6 ∈ jW) (w3 : Cond.initialized E ∈ jW) (hemp : c.exceptionTable.isEmpty = true)
    (hd0 : decode cc pc = .ok (.new idx, 3)) (hd3 : decode cc (pc + 3) = .ok (.dup, 1)) (hd4 : decode cc (pc + 4) = .ok (.invokespecial ic, 3)) (hd7 : decode cc (pc + 7) = .ok (.athrow, 1)) (hR : 6 ≤ R.frames ∧ 100 ≤ R.locals ∧ 1 ≤ R.cells ∧ 6 ≤ R.slots) :
    W p l e R s m args below meth c s.heap [] 0 0 (jxE0 below E s) (F0 m pc ls []) := by
  have hfit : Bundle.fit E = true ∧ ∀ n ∈ jxUp, Bundle.fit n = true := by
    have : ∀ q ∈ jxEs, Bundle.fit q.2 = true ∧ ∀ n ∈ jxUp, Bundle.fit n = true := by decide +kernel
    exact this _ hE
  refine W.newc hx hb hown (hts _ w1) (hts _ w2) (hts _ w3) rfl hd0 (by omega) (by omega) (fun cC kC h1 h2 h3 h4 => ?_)
  refine W.eq (g2 := F0 m (pc + 3) ls [.ref s.heap.size]) rfl ?_
  refine lv_dup hx hb hd3 rfl ?_
  intro T hT X
  have htr' : e.platform.stackTraces = false := by rw [X.admits.platform]; exact htr
  obtain ⟨U, hsteps, hrun, hend, hW, hsame, ce, hce, K⟩ := X.ctorThrow0 hx htr' (own := "HistoryJudge") (cls := E) (names := jxUp) (ic := ic) hown hfit.1 hfit.2 (hz.own hts hE) (fun y hy => by cases hy) h1 h2
    (a := s.heap.size) (by rw [hT]; simp) (Nat.le_refl _) (g := F0 m (pc + 4) ls [.ref s.heap.size, .ref s.heap.size]) rfl (hls.trans hml.symm) rfl rfl (rest := []) rfl (by rw [hb]; exact hd4) (by rw [hb]; exact hd7) (covers_of_empty hemp _) (by simp [jxUp]; omega) (by simp [jxUp, Value.category]; omega) hlk
  exact ⟨U, hsteps, s.heap.size, ce, hrun, hend, Nat.le_refl _, hce, K.vm, K.cls, hW, hsame⟩
