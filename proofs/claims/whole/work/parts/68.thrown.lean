/-! A method that throws: its contract; the row that ends it. -/
def jxQT (Θ : jxT) (E : String) (σ : jxM) (A : Nat → Prop) : Array Value → State → Outcome → State → Prop := fun _ st o t => ∃ a, o = .threw a ∧ (∃ cell, t.heap[a]? = some cell ∧ cell.vm = .none ∧ st.vm.findClass E = some cell.cls) ∧ jxP Θ σ t.heap ∧ va_F A st t ∧ ∃ L, FrameEndT st o t L 1 6 ∧ ∀ q ∈ L, A q.base
def jxTQ (below : List Frame) (Θ : jxT) (E : String) (σ : jxM) (A : Nat → Prop) (args : Array Value) (s : State) : State → Prop := fun t => ∃ o, t.status = .running ∧ Ended t below o ∧ jxQT Θ E σ A args s o t
/-- what a throwing walk may use besides -/
def jxOkT (Γ : jxG) : Prop := match Γ with
  | (_, l, _, _, s, _, _, _, _, c, A) => jxZ s ∧ (∀ (q : Nat) (cell : Cell), s.heap[q]? = some cell → cell.vm.isStatics = true → ¬ A q) ∧ c.exceptionTable.isEmpty = true ∧ l.stackTraces = false
def jxTP (Γ : jxG) (Θ : jxT) (E : String) (σ : jxM) : jxQc := match Γ with
  | (_, _, _, _, s, _, args, below, _, _, A) => (jxTQ below Θ E σ A args s, 0, 0)
theorem jxTP_2 (Γ : jxG) (Θ : jxT) (E : String) (σ : jxM) (rm : Room) : (jxTP Γ Θ E σ).2.1 ≤ rm.cells ∧ (jxTP Γ Θ E σ).2.2 ≤ rm.slots := by
  obtain ⟨p, l', e, R, s, m, args, below, meth, c, A⟩ := Γ
  exact ⟨Nat.zero_le _, Nat.zero_le _⟩
theorem q_throw {Γ : jxG} {Θ : jxT} {l : Launch} {cc : ByteArray} {nL : Nat} {ret : Option FieldType} {rm : Room} {pc idx ic : Nat} {L : List (Option jxV)} {σ : jxM} {E : String} (X : jxOk Γ Θ l cc nL "HistoryJudge" ret rm) (Z : jxOkT Γ) (hE : (ic, E) ∈ jxEs) (w1 : Cond.classLink "HistoryJudge" idx E ∈ jW) (w2 : Cond.instantiable E 6 ∈ jW) (w3 : Cond.initialized E ∈ jW)
    (hd0 : decode cc pc = .ok (.new idx, 3)) (hd3 : decode cc (pc + 3) = .ok (.dup, 1)) (hd4 : decode cc (pc + 4) = .ok (.invokespecial ic, 3)) (hd7 : decode cc (pc + 7) = .ok (.athrow, 1)) (hR : 6 ≤ rm.frames ∧ 100 ≤ rm.locals ∧ 1 ≤ rm.cells ∧ 6 ≤ rm.slots) (hL : L.length = nL) : jxWq Γ Θ (jxTP Γ Θ E σ) pc L [] σ := by
  obtain ⟨p, l', e, R, s, m, args, below, meth, c, A⟩ := Γ
  obtain ⟨hx, hb, hml, hown, hts, hret, hlk, hS0, hI, hA1, hA2, hR0, hl0⟩ := X
  obtain ⟨hz, hst, hemp, htr⟩ := Z
  subst hR0
  intro H locs ls hP hS hl T hT XT
  have hT' : (T.setFrames (.invoking m args :: below)).heap = H := hT
  have hW0 : s.WarmedH (T.setFrames (.invoking m args :: below)).vm := XT.warmed
  have hkeep : ∀ (q : Nat) (cell : Cell), s.heap[q]? = some cell → cell.vm.isStatics = true → H[q]? = some cell := fun q cell h1 h2 => by
    rw [hS.2.1 q (Array.getElem?_eq_some_iff.mp h1).1 (hst q cell h1 h2)]; exact h1
  have X1 := jst_again XT (Nat.zero_le _) (Nat.zero_le _)
  obtain ⟨t, hs, a, cell, hrun, hend, hna, hca, hvm, hcls, hW, hsame⟩ := jthrow0 (p := p) (l := l') (e := e) (R := { R with cells := R.cells - 0, slots := R.slots - 0 }) (s := T.setFrames (.invoking m args :: below)) (m := m) (args := args) (below := below) (meth := meth) (c := c) (cc := cc) (pc := pc) (idx := idx) (ic := ic) (nL := nL) (ls := ls) (E := E) hx hb hml (hl.1.trans hL) hlk
    (by show T.vm.findClass _ = _; rw [XT.warmed.alike.findClass]; exact hown) htr hE (hz.keep hW0 (fun q cell h1 h2 => by rw [hT']; exact hkeep q cell h1 h2)) (fun w hw => word_at hW0 (jW_good w hw) (hts w hw)) w1 w2 w3 hemp hd0 hd3 hd4 hd7 ⟨hR.1, hR.2.1, by simpa using hR.2.2.1, by simpa using hR.2.2.2⟩ T rfl X1
  have hsm : T.sameButNew ({ t with vm := T.vm } : State) [] 1 6 := by
    refine ⟨?_, hsame.2⟩
    have := hsame.1
    rw [State.setFrames_setFrames] at this
    exact this
  have hsz : H.size ≤ t.heap.size := by have := hsm.2.1; rw [hT] at this; exact this
  have heq : ∀ q : Nat, q < H.size → t.heap[q]? = H[q]? := fun q hq => by
    have := jsame_nil hsm q (by rw [hT]; exact hq)
    rw [hT] at this
    exact this
  refine ⟨t, hs, .threw a, hrun, hend, a, rfl, ⟨cell, hca, hvm, ?_⟩, fun g r hp => (hP g r hp).kept (heq _ (hP g r hp).lt), ⟨Nat.le_trans hS.1 hsz, fun q h1 h2 => ?_⟩, locs, ⟨⟨a, rfl⟩, State.WarmedH.trans hW0 hW, ?_⟩, hS.2.2⟩
  · have h : T.vm.findClass E = some cell.cls := hcls
    rw [XT.warmed.alike.findClass] at h
    exact h
  · rw [heq q (Nat.lt_of_lt_of_le h1 hS.1)]; exact hS.2.1 q h1 h2
  · have h := XT.same.trans (hsm.setVm s.vm)
    rw [List.append_nil] at h
    have e1 : (jxTP (p, l', e, R, s, m, args, below, meth, c, A) Θ E σ).2.1 + 1 = 1 := rfl
    have e2 : (jxTP (p, l', e, R, s, m, args, below, meth, c, A) Θ E σ).2.2 + 6 = 6 := rfl
    rw [e1, e2] at h
    exact h
