/-! Calls over jxW: of methods that make nothing and have a contract jxMet. -/
section JC
variable {p : Program} {l : Launch} {e : Env} {R : Room} {s : State} {m : MethodId} {args : Array Value} {below : List Frame} {meth : Method} {c : Code} {A : Nat → Prop}
variable {Θ : jxT} {Φ Φ' : jxF} {cc : ByteArray} {nL : Nat} {own : String} {ret : Option FieldType} {rm : Room} {pc q : Nat} {L : List (Option jxV)} {st rest : List jxV} {σ : jxM}
theorem jxA_in (hA1 : ∀ g r, Θ.2.2.2 g r → A (Θ.2.2.1 g r)) (hA2 : ∀ q, s.heap.size ≤ q → A q) {H : Heap} {locs : List Loc} (hS : va_S A s.heap H locs) : ∀ q, jxA Θ H.size q → A q := by
  intro q h
  rcases h with ⟨g, r, h1, rfl⟩ | h
  · exact hA1 g r h1
  · exact hA2 q (Nat.le_trans hS.1 h)
theorem j_run {a : Array Value} (hA1 : ∀ g r, Θ.2.2.2 g r → A (Θ.2.2.1 g r)) (hA2 : ∀ q, s.heap.size ≤ q → A q)
    (hrun : ∀ (H : Heap) (locs : List Loc) (ls : Array Slot), jxP Θ σ H → va_S A s.heap H locs → jxL Θ.2.2.1 ls L → va_Run p l e R s m args below meth c H locs 0 0 0 0 (F0 m pc ls (st.map (jxe Θ.2.2.1))) (rest.map (jxe Θ.2.2.1)) (jxQ Θ Φ' (jxA Θ H.size) a) (jxA Θ H.size))
    (kk : ∀ r σ', Φ' r σ' → jxW (p, l, e, R, s, m, args, below, meth, c, A) Θ Φ (pc + 3) L (r.toList ++ rest) σ') : jxW (p, l, e, R, s, m, args, below, meth, c, A) Θ Φ pc L st σ := by
  intro H locs ls hP hS hl T hT X0
  have hf := jxA_in hA1 hA2 hS
  obtain ⟨v, st₀, t, T', L', h0, X', hL, e1, e2, ⟨⟨r, σ', hv, hΦ, hP'⟩, hz, hk⟩, stp⟩ := hrun H locs ls hP hS hl T hT X0
  cases hv
  rw [h0] at hz hk
  have hS' : va_S A s.heap T'.heap (locs ++ L') := ⟨Nat.le_trans hS.1 (by rw [e1]; exact hz), fun q h1 h2 => by rw [e1, hk q (Nat.lt_of_lt_of_le h1 hS.1) (fun z => h2 (hf q z))]; exact hS.2.1 q h1 h2, fun q hq => by
      rcases List.mem_append.mp hq with h | h
      · exact hS.2.2 q h
      · exact hf _ (hL q h)⟩
  have kk' := kk r σ' hΦ T'.heap (locs ++ L') ls (by rw [e1]; exact hP') hS' hl T' rfl X'
  cases r with
  | none =>
    obtain ⟨t2, a1, b1⟩ := kk'
    exact ⟨t2, stp t2 a1, b1⟩
  | some v =>
    obtain ⟨t2, a1, b1⟩ := kk'
    exact ⟨t2, stp t2 a1, b1⟩
theorem jxcats (ad : Nat → Nat → Nat) (l : List jxV) : ((l.map (jxe ad)).map fun v => v.category).sum = l.length := by
  induction l with
  | nil => rfl
  | cons a l ih =>
    show (jxe ad a).category + ((l.map (jxe ad)).map fun v => v.category).sum = l.length + 1
    rw [jxe_cat, ih]; omega
theorem jxrest (ad : Nat → Nat → Nat) {l : List jxV} (h : l.length ≤ 8) : ((l.map (jxe ad)).map fun v => v.category).sum ≤ 8 := by rw [jxcats]; exact h
theorem jxrecv {H : Heap} {g r ci N : Nat} {fl : List (Option Nat)} {C : String} {T : u_T} (hS0 : jxS Θ s) (hP : jxP Θ σ H) (hk : jxk g = .inl (ci, fl)) (hc : jxCl[ci]? = some (C, T, N)) (hp : Θ.2.2.2 g r) : ∃ cellB : Cell, H[Θ.2.2.1 g r]? = some cellB ∧ cellB.vm.isStatics = false ∧ s.vm.findClass C = some cellB.cls := by
  have h0 := hP g r hp
  rw [hk] at h0
  obtain ⟨r0, h1, cell, q1, q2, q3, q4⟩ := h0
  have hr : r0 = (C, T, N) := Option.some.inj (h1.symm.trans hc)
  subst hr
  obtain ⟨-, hfc, -⟩ := hS0.1.1 ci _ hc
  exact ⟨cell, q1, by rw [q3]; rfl, by rw [q2]; exact hfc⟩
end JC
theorem jW_goodS {own : String} {idx : Nat} {y : MethodName} {b : ByteArray} {n : Nat} {ret : Option FieldType} (h1 : Cond.methodLink own idx y ∈ jW) (h2 : Cond.static y ∈ jW) (h3 : Cond.initialized y.cls ∈ jW) (h4 : Cond.code y b n ret ∈ jW) : GoodIn jW (va_wsS own idx y (Cond.code y b n ret :: jW)) := by
  have key : ∀ w ∈ va_wsS own idx y (Cond.code y b n ret :: jW), w ∈ jW := by
    intro w hw
    simp only [va_wsS, List.mem_append, List.mem_cons, List.not_mem_nil, or_false] at hw
    rcases hw with (rfl | rfl | rfl) | rfl | h
    · exact h1
    · exact h2
    · exact h3
    · exact h4
    · exact h
  exact fun w hw => ⟨key w hw, jW_good w (key w hw)⟩
theorem jW_goodV {own C : String} {idx : Nat} {y : MethodName} {b : ByteArray} {n : Nat} {ret : Option FieldType} (h1 : Cond.methodLink own idx y ∈ jW) (h2 : Cond.instanceMethod y ∈ jW) (h3 : Cond.selects C y y ∈ jW) (h5 : Cond.initialized C ∈ jW) (h4 : Cond.code y b n ret ∈ jW) : GoodIn jW (wsV own idx C y (Cond.code y b n ret :: jW)) := by
  have key : ∀ w ∈ wsV own idx C y (Cond.code y b n ret :: jW), w ∈ jW := by
    intro w hw
    simp only [wsV, List.mem_append, List.mem_cons, List.not_mem_nil, or_false] at hw
    rcases hw with (rfl | rfl | rfl | rfl) | rfl | h
    · exact h1
    · exact h2
    · exact h3
    · exact h5
    · exact h4
    · exact h
  exact fun w hw => ⟨key w hw, jW_good w (key w hw)⟩
theorem jW_goodN {y : MethodName} {b : ByteArray} {n : Nat} {ret : Option FieldType} (h4 : Cond.code y b n ret ∈ jW) : GoodIn jW (Cond.code y b n ret :: jW) := by
  have key : ∀ w ∈ Cond.code y b n ret :: jW, w ∈ jW := by
    intro w hw
    rcases List.mem_cons.mp hw with rfl | h
    · exact h4
    · exact h
  exact fun w hw => ⟨key w hw, jW_good w (key w hw)⟩
section JD
variable {Γ : jxG} {Θ : jxT} {Φ Φ' : jxF} {l : Launch} {cc : ByteArray} {nL : Nat} {own : String} {ret : Option FieldType} {rm : Room} {pc q : Nat} {L : List (Option jxV)} {st as rest : List jxV} {σ : jxM}
variable {index maxL n : Nat} {y : MethodName} {bytes : ByteArray} {ret' : Option FieldType} {rm' : Room}
/-- a static method of a class of ours or of the JDK -/
theorem j_callS (X : jxOk Γ Θ l cc nL own ret rm) (hd : decode cc pc = .ok (.invokestatic index, 3)) (hM : jxMet l y bytes maxL ret' rm' Θ as σ Φ') (w1 : Cond.methodLink own index y ∈ jW) (w2 : Cond.static y ∈ jW) (w3 : Cond.initialized y.cls ∈ jW) (w4 : Cond.code y bytes maxL ret' ∈ jW)
    (hy : y.cls ≠ "java/lang/invoke/MethodHandle" ∧ y.cls ≠ "java/lang/invoke/VarHandle" ∧ (parseMethodDescriptor y.desc).map (fun d => d.parameters.length) = some n) (hr0 : rm'.cells = 0 ∧ rm'.slots = 0) (hR : rm'.frames + 1 ≤ rm.frames ∧ 8 + (maxL + 11) + rm'.locals ≤ rm.locals)
    (hst : st = as.reverse ++ rest) (hn : as.length = n) (hr : rest.length ≤ 8) (hL : L.length = nL) (hq : pc + 3 = q) (kk : ∀ r σ', Φ' r σ' → jxW Γ Θ Φ q L (r.toList ++ rest) σ') : jxW Γ Θ Φ pc L st σ := by
  subst hq; subst hst
  obtain ⟨p, l', e, R, s, m, args, below, meth, c, A⟩ := Γ
  obtain ⟨hx, hb, hml, hown, hts, hret, hlk, hS0, hI, hA1, hA2, hR0, hl0⟩ := X
  subst hR0; subst hl0
  refine j_run (a := (as.map (jxe Θ.2.2.1)).toArray) hA1 hA2 (fun H locs ls hP hS hl => ?_) kk
  exact va_runS (As := as.map (jxe Θ.2.2.1)) ⟨hx, hb, hml, hown, hts⟩ (hM H.size) (va_cwS n hts (jW_goodS w1 w2 w3 w4) rfl hr0.1 hr0.2 hy hR) ⟨jxPre.blind, fun U hU hW => ⟨rfl, by rw [hU], by rw [hU]; exact hP, hS0.warm hW⟩⟩ rfl (by rw [List.length_map]; exact hn) (hl.1.trans hL) (by simp [F0]) (lv_room (jxrest _ hr)) hd ⟨Nat.zero_le _, Nat.zero_le _⟩
/-- a static method of a nest mate, private -/
theorem j_callSN {host : String} (X : jxOk Γ Θ l cc nL own ret rm) (hd : decode cc pc = .ok (.invokestatic index, 3)) (hM : jxMet l y bytes maxL ret' rm' Θ as σ Φ') (w4 : Cond.code y bytes maxL ret' ∈ jW) (hnest : Cond.methodLinkNest own index y host ∈ jxnst) (hini : Cond.initialized y.cls ∈ jW) (hsta : Cond.static y ∈ jW)
    (hy : y.cls ≠ "java/lang/invoke/MethodHandle" ∧ y.cls ≠ "java/lang/invoke/VarHandle" ∧ (parseMethodDescriptor y.desc).map (fun d => d.parameters.length) = some n) (hr0 : rm'.cells = 0 ∧ rm'.slots = 0) (hR : rm'.frames + 1 ≤ rm.frames ∧ 8 + (maxL + 11) + rm'.locals ≤ rm.locals)
    (hst : st = as.reverse ++ rest) (hn : as.length = n) (hr : rest.length ≤ 8) (hL : L.length = nL) (hq : pc + 3 = q) (kk : ∀ r σ', Φ' r σ' → jxW Γ Θ Φ q L (r.toList ++ rest) σ') : jxW Γ Θ Φ pc L st σ := by
  subst hq; subst hst
  obtain ⟨p, l', e, R, s, m, args, below, meth, c, A⟩ := Γ
  obtain ⟨hx, hb, hml, hown, hts, hret, hlk, hS0, hI, hA1, hA2, hR0, hl0⟩ := X
  subst hR0; subst hl0
  refine j_run (a := (as.map (jxe Θ.2.2.1)).toArray) hA1 hA2 (fun H locs ls hP hS hl => ?_) kk
  exact va_runSN (As := as.map (jxe Θ.2.2.1)) ⟨hx, hb, hml, hown, hts⟩ (hM H.size) ⟨va_cnB n hts (jW_goodN w4) rfl hr0.1 hr0.2 (hS0.2 _ hnest) (hts _ hini) hy hR, hts _ hsta, trivial⟩ ⟨jxPre.blind, fun U hU hW => ⟨rfl, by rw [hU], by rw [hU]; exact hP, hS0.warm hW⟩⟩ rfl (by rw [List.length_map]; exact hn) (hl.1.trans hL) (by simp [F0]) (lv_room (jxrest _ hr)) hd ⟨Nat.zero_le _, Nat.zero_le _⟩
/-- a method on an object -/
theorem j_callV {g r ci N : Nat} {fl : List (Option Nat)} {C : String} {T : u_T} (X : jxOk Γ Θ l cc nL own ret rm) (hd : decode cc pc = .ok (.invokevirtual index, 3)) (hM : jxMet l y bytes maxL ret' rm' Θ (.inr (g, r) :: as) σ Φ') (hk : jxk g = .inl (ci, fl)) (hc : jxCl[ci]? = some (C, T, N)) (hp : Θ.2.2.2 g r) (w1 : Cond.methodLink own index y ∈ jW) (w2 : Cond.instanceMethod y ∈ jW) (w3 : Cond.selects C y y ∈ jW) (w5 : Cond.initialized C ∈ jW) (w4 : Cond.code y bytes maxL ret' ∈ jW)
    (hy : y.cls = C ∧ y.cls ≠ "java/lang/invoke/MethodHandle" ∧ y.cls ≠ "java/lang/invoke/VarHandle" ∧ (parseMethodDescriptor y.desc).map (fun d => d.parameters.length) = some n) (hr0 : rm'.cells = 0 ∧ rm'.slots = 0) (hR : rm'.frames + 1 ≤ rm.frames ∧ 8 + (maxL + 11) + rm'.locals ≤ rm.locals)
    (hst : st = as.reverse ++ .inr (g, r) :: rest) (hn : as.length = n) (hr : rest.length ≤ 8) (hL : L.length = nL) (hq : pc + 3 = q) (kk : ∀ r σ', Φ' r σ' → jxW Γ Θ Φ q L (r.toList ++ rest) σ') : jxW Γ Θ Φ pc L st σ := by
  subst hq; subst hst
  obtain ⟨p, l', e, R, s, m, args, below, meth, c, A⟩ := Γ
  obtain ⟨hx, hb, hml, hown, hts, hret, hlk, hS0, hI, hA1, hA2, hR0, hl0⟩ := X
  subst hR0; subst hl0
  refine j_run (a := (Value.ref (Θ.2.2.1 g r) :: as.map (jxe Θ.2.2.1)).toArray) hA1 hA2 (fun H locs ls hP hS hl => ?_) kk
  exact va_runV (As := as.map (jxe Θ.2.2.1)) (C := C) ⟨hx, hb, hml, hown, hts⟩ (hM H.size) (cwV n hts (jW_goodV w1 w2 w3 w5 w4) rfl hr0.1 hr0.2 hy hR) ⟨jxPre.blind, jxrecv hS0 hP hk hc hp, fun U hU hW => ⟨rfl, by rw [hU], by rw [hU]; exact hP, hS0.warm hW⟩⟩ rfl (by rw [List.length_map]; exact hn) (hl.1.trans hL) (by simp [F0, jxe]) (lv_room (jxrest _ hr)) hd ⟨Nat.zero_le _, Nat.zero_le _⟩
/-- a private method of a nest mate on an object -/
theorem j_callVN {host : String} {g r ci N : Nat} {fl : List (Option Nat)} {C : String} {T : u_T} (X : jxOk Γ Θ l cc nL own ret rm) (hd : decode cc pc = .ok (.invokevirtual index, 3)) (hM : jxMet l y bytes maxL ret' rm' Θ (.inr (g, r) :: as) σ Φ') (hk : jxk g = .inl (ci, fl)) (hc : jxCl[ci]? = some (C, T, N)) (hp : Θ.2.2.2 g r) (w4 : Cond.code y bytes maxL ret' ∈ jW) (hnest : Cond.methodLinkNest own index y host ∈ jxnst) (hini : Cond.initialized y.cls ∈ jW) (hins : Cond.instanceMethod y ∈ jW) (hsel : Cond.selects C y y ∈ jW)
    (hy : y.cls ≠ "java/lang/invoke/MethodHandle" ∧ y.cls ≠ "java/lang/invoke/VarHandle" ∧ (parseMethodDescriptor y.desc).map (fun d => d.parameters.length) = some n) (hr0 : rm'.cells = 0 ∧ rm'.slots = 0) (hR : rm'.frames + 1 ≤ rm.frames ∧ 8 + (maxL + 11) + rm'.locals ≤ rm.locals)
    (hst : st = as.reverse ++ .inr (g, r) :: rest) (hn : as.length = n) (hr : rest.length ≤ 8) (hL : L.length = nL) (hq : pc + 3 = q) (kk : ∀ r σ', Φ' r σ' → jxW Γ Θ Φ q L (r.toList ++ rest) σ') : jxW Γ Θ Φ pc L st σ := by
  subst hq; subst hst
  obtain ⟨p, l', e, R, s, m, args, below, meth, c, A⟩ := Γ
  obtain ⟨hx, hb, hml, hown, hts, hret, hlk, hS0, hI, hA1, hA2, hR0, hl0⟩ := X
  subst hR0; subst hl0
  refine j_run (a := (Value.ref (Θ.2.2.1 g r) :: as.map (jxe Θ.2.2.1)).toArray) hA1 hA2 (fun H locs ls hP hS hl => ?_) kk
  exact va_runVN (As := as.map (jxe Θ.2.2.1)) (C := C) ⟨hx, hb, hml, hown, hts⟩ (hM H.size) ⟨va_cnB n hts (jW_goodN w4) rfl hr0.1 hr0.2 (hS0.2 _ hnest) (hts _ hini) hy hR, hts _ hins, hts _ hsel⟩ ⟨jxPre.blind, jxrecv hS0 hP hk hc hp, fun U hU hW => ⟨rfl, by rw [hU], by rw [hU]; exact hP, hS0.warm hW⟩⟩ rfl (by rw [List.length_map]; exact hn) (hl.1.trans hL) (by simp [F0, jxe]) (lv_room (jxrest _ hr)) hd ⟨Nat.zero_le _, Nat.zero_le _⟩
end JD
