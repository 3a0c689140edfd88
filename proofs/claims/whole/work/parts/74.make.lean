/-! 'new C()': a row for every walk; the row inside a constructor; a constructor's call of a method of its own object. -/
theorem jxmk {p : Program} {l : Launch} {e : Env} {R : Room} {s : State} {m : MethodId} {args : Array Value} {below : List Frame} {meth : Method} {c : Code} {H : Heap} {locs : List Loc} {cells slots : Nat} {Q : State → Prop} {cc : ByteArray} {own : String} {pc nL : Nat} {ls : Array Slot} {rest : List Value} {Θ : jxT}
    {C : String} {T : u_T} {N ci index idx : Nat} {y : MethodName} {bytes : ByteArray} {rm' : Room} {fs0 : List Value} {rw0 : Nat → Nat} {n ns : Nat} {K : jxM → Prop} (ty0 : Nat → FieldType)
    (hx : p.tables.exec = Jvm.exec) (hb : c.code = cc) (hml : c.maxLocals = nL) (hls : ls.size = nL) (hown : s.vm.findClass own = some m.cls) (hts : ∀ w ∈ jW, w.before args s = true) (hS0 : jxS Θ s) (hO : jxAO s)
    (hin : ∀ w ∈ u_ws C T N, w ∈ jW) (hc : jxCl[ci]? = some (C, T, N)) (hty : ∀ k, k < N → parseFieldDescriptor (T k).2.2.1 = some (ty0 k)) (hfs : ∀ j, j < N → defaultValue (ty0 j) = vp_V fs0 j)
    (w1 : Cond.classLink own index C ∈ jW) (w2 : Cond.instantiable C N ∈ jW) (w3 : Cond.initialized C ∈ jW) (w4 : Cond.methodLink own idx y ∈ jW ∨ ∃ host, Cond.methodLinkNest own idx y host ∈ jxnst) (w5 : Cond.instanceMethod y ∈ jW) (w6 : Cond.code y bytes 1 none ∈ jW)
    (hy : y.cls = C ∧ y.name = "<init>" ∧ y.cls ≠ "java/lang/invoke/MethodHandle" ∧ y.cls ≠ "java/lang/invoke/VarHandle" ∧ (parseMethodDescriptor y.desc).map (fun d => d.parameters.length) = some 0)
    (hd0 : decode cc pc = .ok (.new index, 3)) (hd3 : decode cc (pc + 3) = .ok (.dup, 1)) (hd4 : decode cc (pc + 4) = .ok (.invokespecial idx, 3)) (hR1 : rm'.cells = n ∧ rm'.slots = ns) (hR2 : rm'.frames + 1 ≤ R.frames ∧ 8 + (1 + 11) + rm'.locals ≤ R.locals) (hR3 : cells + 1 + n ≤ R.cells ∧ slots + N + ns ≤ R.slots) (hrest : (rest.map fun v => v.category).sum ≤ 7)
    (hM : jxNew l y bytes rm' Θ ci fs0 rw0 n ns H.size (H.size + 1) K)
    (kk : ∀ (H1 : Heap) (L : List Loc) (σ : jxM), K σ → jxP (jxRw Θ rw0) σ H1 → H1.size = H.size + 1 + n → (∀ q : Nat, q < H.size → H1[q]? = H[q]?) → (∀ q ∈ L, H.size ≤ q.base) → W p l e R s m args below meth c H1 (locs ++ L) (cells + 1 + n) (slots + N + ns) Q (F0 m (pc + 7) ls (.ref H.size :: rest))) : W p l e R s m args below meth c H locs cells slots Q (F0 m pc ls rest) := by
  have hKn := hS0.1.1 ci _ hc
  obtain ⟨hyC, hy1, hy2, hy3, hy4⟩ := hy
  subst hyC
  refine W.newcK hx hb hown (hts _ w1) (hts _ w2) (hts _ w3) rfl hd0 (by omega) (by omega) hKn.2.1 rfl fun H1 kC hkC e1 z1 o1 => ?_
  have hob := (u_born ty0 hts hin hKn hkC e1 hty).to hfs
  refine W.eq (g2 := F0 m (pc + 3) ls (.ref H.size :: rest)) rfl ?_
  refine lv_dup hx hb hd3 rfl ?_
  have hpre : PreS s H1 (jxNPre Θ ci fs0 H.size (H.size + 1)) [.ref H.size] := ⟨jxNPre.blind, fun U hU hW => ⟨rfl, by rw [hU, z1], by rw [hU]; exact ⟨_, hc, hob⟩, hS0.warm hW, hO.warm hW⟩⟩
  have hroom : 2 * (F0 m (pc + 4) ls (.ref H.size :: .ref H.size :: rest)).monitorRoom + ((Value.ref H.size :: rest).map fun v => v.category).sum ≤ 8 := lv_room (by rw [List.map_cons, List.sum_cons]; have : (Value.ref H.size).category = 1 := rfl; omega)
  have hrun : va_Run p l e R s m args below meth c H1 locs (cells + 1) (slots + N) n ns (F0 m (pc + 4) ls (.ref H.size :: .ref H.size :: rest)) (.ref H.size :: rest) (jxNPost Θ rw0 K H.size (H.size + 1) n #[.ref H.size]) (fun q => q = H.size ∨ H.size + 1 ≤ q) := by
    rcases w4 with w4 | ⟨host, w4⟩
    · exact va_runI (y := y) (b := H.size) (As := []) (n := 0) ⟨hx, hb, hml, hown, hts⟩ hM ⟨callB_of 0 hts (jW_goodN w6) rfl hR1.1 hR1.2 (hts _ w3) (hts _ w4) ⟨hy2, hy3, hy4⟩ hR2, hy1, hts _ w5⟩ hpre rfl rfl hls rfl hroom hd4 ⟨by omega, by omega⟩
    · exact va_runIN (y := y) (b := H.size) (As := []) (n := 0) ⟨hx, hb, hml, hown, hts⟩ hM ⟨va_cnB 0 hts (jW_goodN w6) rfl hR1.1 hR1.2 (hS0.2 _ w4) (hts _ w3) ⟨hy2, hy3, hy4⟩ hR2, hy1, hts _ w5⟩ hpre rfl rfl hls rfl hroom hd4 ⟨by omega, by omega⟩
  intro T1 hT X
  obtain ⟨v, st₀, t, T', L, h0, X', hL, e1', e2', ⟨hv, ⟨σ, hK, hP⟩, hsz, hF⟩, stp⟩ := hrun T1 hT X
  cases hv
  rw [← e1'] at hP hsz
  have hkeep : ∀ q : Nat, q < H.size → T'.heap[q]? = H[q]? := fun q hq => by
    rw [e1', hF.2 q (by rw [h0, z1]; omega) (fun z => by rcases z with z | z <;> omega), h0]
    exact o1 q hq
  obtain ⟨t2, a1, b1⟩ := kk T'.heap L σ hK hP hsz hkeep (fun q hq => by
      rcases hL q hq with z | z
      · exact Nat.le_of_eq z.symm
      · exact Nat.le_of_succ_le z) T' rfl X'
  exact ⟨t2, stp t2 a1, b1⟩
/-- one memory over another: the groups of an object from the first -/
def jxmx (rw0 : Nat → Nat) (σ' σ : jxM) : jxM := fun g => if 0 < rw0 g then σ' g else σ g
section JN2
variable {Γ : jxG} {Θ : jxT} {l : Launch} {cc : ByteArray} {own : String} {rm : Room} {a ci slots n pc q : Nat} {Q : State → Prop} {st fs : List Value} {pr : List (Nat × Nat)} {σ : jxM}
theorem n_new (X : jxOkN Γ Θ l cc own rm a) {C : String} {T : u_T} {N ci' g' index idx : Nat} {y : MethodName} {bytes : ByteArray} {rm' : Room} {fs0 : List Value} {rw0 : Nat → Nat} {n' ns : Nat} {K : jxM → Prop} {prS : List (Nat × Nat)} (ty0 : Nat → FieldType)
    (hin : ∀ w ∈ u_ws C T N, w ∈ jW) (hc : jxCl[ci']? = some (C, T, N)) (hty : ∀ k, k < N → parseFieldDescriptor (T k).2.2.1 = some (ty0 k)) (hfs : ∀ j, j < N → defaultValue (ty0 j) = vp_V fs0 j)
    (w1 : Cond.classLink own index C ∈ jW) (w2 : Cond.instantiable C N ∈ jW) (w3 : Cond.initialized C ∈ jW) (w4 : Cond.methodLink own idx y ∈ jW ∨ ∃ host, Cond.methodLinkNest own idx y host ∈ jxnst) (w5 : Cond.instanceMethod y ∈ jW) (w6 : Cond.code y bytes 1 none ∈ jW)
    (hy : y.cls = C ∧ y.name = "<init>" ∧ y.cls ≠ "java/lang/invoke/MethodHandle" ∧ y.cls ≠ "java/lang/invoke/VarHandle" ∧ (parseMethodDescriptor y.desc).map (fun d => d.parameters.length) = some 0)
    (hd0 : decode cc pc = .ok (.new index, 3)) (hd3 : decode cc (pc + 3) = .ok (.dup, 1)) (hd4 : decode cc (pc + 4) = .ok (.invokespecial idx, 3)) (hR1 : rm'.cells = n' ∧ rm'.slots = ns) (hR2 : rm'.frames + 1 ≤ rm.frames ∧ 8 + (1 + 11) + rm'.locals ≤ rm.locals) (hR3 : n + 1 + n' ≤ rm.cells ∧ slots + N + ns ≤ rm.slots) (hrest : (st.map fun v => v.category).sum ≤ 7)
    (had : Θ.2.2.1 g' 0 = jxSz Γ + n) (hM : jxNew l y bytes rm' Θ ci' fs0 rw0 n' ns (Θ.2.2.1 g' 0) (Θ.2.2.1 g' 0 + 1) K) (hprS : ∀ q ∈ prS, q.2 < rw0 q.1) (hge : ∀ q ∈ prS, jxSz Γ ≤ Θ.2.2.1 q.1 q.2) (hdis : ∀ q ∈ pr, ¬ 0 < rw0 q.1) (hq : pc + 7 = q)
    (k : ∀ σ', K σ' → jxWn Γ Θ a ci Q (slots + N + ns) (n + 1 + n') q (.ref (Θ.2.2.1 g' 0) :: st) fs (prS ++ pr) (jxmx rw0 σ' σ)) : jxWn Γ Θ a ci Q slots n pc st fs pr σ := by
  subst hq
  obtain ⟨p, l', e, R, s, m, args, below, meth, c, A⟩ := Γ
  obtain ⟨hx, hb, hml, hown, hts, hret, hlk, hnm2, hS0, hO, hA, ha, hR0, hl0⟩ := X
  subst hR0; subst hl0
  have had : Θ.2.2.1 g' 0 = s.heap.size + n := had
  have hge : ∀ q ∈ prS, s.heap.size ≤ Θ.2.2.1 q.1 q.2 := hge
  intro H locs ls hz hP hE hS hl
  have hH : Θ.2.2.1 g' 0 = H.size := by rw [had, hz]
  rw [hH] at hM
  refine jxmk ty0 hx hb hml hl.2 hown hts hS0 hO hin hc hty hfs w1 w2 w3 w4 w5 w6 hy hd0 hd3 hd4 hR1 hR2 hR3 hrest hM (fun H1 L σ' hK hP1 hsz hkeep hL => ?_)
  have kk := k σ' hK H1 (locs ++ L) ls (by rw [hsz, hz]; omega) (hP.kept (hkeep _ hP.lt)) (fun x hx => ?_) ⟨Nat.le_trans hS.1 (by omega), fun x h1 h2 => (hkeep x (Nat.lt_of_lt_of_le h1 hS.1)).trans (hS.2.1 x h1 h2), fun x hx => ?_⟩ hl
  · rw [hH] at kk
    exact kk
  · rcases List.mem_append.mp hx with hx | hx
    · refine ⟨?_, hge x hx⟩
      have h := hP1 x.1 x.2 (hprS x hx)
      have e : jxmx rw0 σ' σ x.1 x.2 = σ' x.1 x.2 := congrFun (if_pos (Nat.lt_of_le_of_lt (Nat.zero_le _) (hprS x hx))) x.2
      rw [e]
      exact h
    · have e : jxmx rw0 σ' σ x.1 x.2 = σ x.1 x.2 := congrFun (if_neg (hdis x hx)) x.2
      rw [e]
      exact ⟨(hE x hx).1.kept (hkeep _ (hE x hx).1.lt), (hE x hx).2⟩
  · rcases List.mem_append.mp hx with hx | hx
    · exact hS.2.2 x hx
    · rw [hA]
      have := hL x hx
      exact Or.inr (by omega)
/-- a constructor calls a method of the object that it made -/
theorem n_own (X : jxOkN Γ Θ l cc own rm a) {C : String} {T : u_T} {N g0 index maxL : Nat} {y : MethodName} {bytes : ByteArray} {rm' : Room} {rw0 : Nat → Nat} {fl : List (Option Nat)} {Φ' : jxF} {fs' : jxM → List Value} (hd : decode cc pc = .ok (.invokevirtual index, 3)) (hM : jxMet l y bytes maxL none rm' (jxRw Θ rw0) [.inr (g0, 0)] σ Φ') (hk : jxk g0 = .inl (ci, fl)) (hc : jxCl[ci]? = some (C, T, N)) (h0 : 0 < rw0 g0)
    (w1 : Cond.methodLink own index y ∈ jW) (w2 : Cond.instanceMethod y ∈ jW) (w3 : Cond.selects C y y ∈ jW) (w5 : Cond.initialized C ∈ jW) (w4 : Cond.code y bytes maxL none ∈ jW)
    (hy : y.cls = C ∧ y.cls ≠ "java/lang/invoke/MethodHandle" ∧ y.cls ≠ "java/lang/invoke/VarHandle" ∧ (parseMethodDescriptor y.desc).map (fun d => d.parameters.length) = some 0) (hr0 : rm'.cells = 0 ∧ rm'.slots = 0) (hR : rm'.frames + 1 ≤ rm.frames ∧ 8 + (maxL + 11) + rm'.locals ≤ rm.locals) (hR3 : n ≤ rm.cells ∧ slots ≤ rm.slots)
    (ha0 : Θ.2.2.1 g0 0 = a) (hfs : jxcon Θ (jxk g0) (σ g0 0) = .inr (ci, fs)) (hfs' : ∀ σ', jxcon Θ (jxk g0) (σ' g0 0) = .inr (ci, fs' σ')) (hcov : ∀ g r, r < rw0 g → (g, r) = (g0, 0) ∨ (g, r) ∈ pr) (hpr : ∀ q ∈ pr, q.2 < rw0 q.1) (hq : pc + 3 = q)
    (k : ∀ σ', Φ' none σ' → jxWn Γ Θ a ci Q slots n q [] (fs' σ') pr σ') (hΦ : ∀ v σ', Φ' v σ' → v = none) : jxWn Γ Θ a ci Q slots n pc [.ref a] fs pr σ := by
  subst hq
  obtain ⟨p, l', e, R, s, m, args, below, meth, c, A⟩ := Γ
  obtain ⟨hx, hb, hml, hown, hts, hret, hlk, hnm2, hS0, hO, hA, ha, hR0, hl0⟩ := X
  subst hR0; subst hl0
  intro H locs ls hz hP hE hS hl
  have hPr : jxP (jxRw Θ rw0) σ H := fun g r hgr => by
    rcases hcov g r hgr with h | h
    · have e1 : g = g0 := congrArg Prod.fst h
      have e2 : r = 0 := congrArg Prod.snd h
      subst e1; subst e2
      show va_at Θ.1 jxCl (Θ.2.2.1 g 0, jxcon Θ (jxk g) (σ g 0)) H
      rw [ha0, hfs]
      exact hP
    · exact (hE (g, r) h).1
  have hAi : ∀ x : Nat, jxA (jxRw Θ rw0) H.size x → A x := fun x hx => by
    rw [hA]
    rcases hx with ⟨g, r, h1, rfl⟩ | hx
    · rcases hcov g r h1 with h | h
      · have e1 : g = g0 := congrArg Prod.fst h
        have e2 : r = 0 := congrArg Prod.snd h
        subst e1; subst e2
        exact Or.inl ha0
      · exact Or.inr (hE (g, r) h).2
    · exact Or.inr (Nat.le_trans hS.1 hx)
  have hrun := va_runV (p := p) (l := l') (e := e) (R := R) (s := s) (m := m) (args := args) (below := below) (meth := meth) (c := c) (H := H) (locs := locs) (cells := n) (slots := slots) (y := y) (As := []) (C := C) (b := a) (rest := []) (g := F0 m pc ls [.ref a]) ⟨hx, hb, hml, hown, hts⟩ (hM H.size) (cwV 0 hts (jW_goodV w1 w2 w3 w5 w4) rfl hr0.1 hr0.2 hy hR) ⟨jxPre.blind, by rw [← ha0]; exact jxrecv (Θ := jxRw Θ rw0) hS0 hPr hk hc h0, fun U hU hW => ⟨by rw [← ha0]; rfl, by rw [hU], by rw [hU]; exact hPr, hS0.warm hW⟩⟩ rfl rfl (hl.2) rfl (lv_room (by simp)) hd ⟨hR3.1, hR3.2⟩
  intro T1 hT X
  obtain ⟨v, st₀, t, T', L, h0', X', hL, e1, e2, ⟨⟨r, σ', hv, hΦ', hP'⟩, hzz, hkk⟩, stp⟩ := hrun T1 hT X
  have hr := hΦ _ _ hΦ'
  subst hr
  cases hv
  rw [h0'] at hzz hkk
  have hsz : T'.heap.size = s.heap.size + n := by
    have h1 := X'.heapSize
    have h2 : H.size ≤ T'.heap.size := by rw [e1]; exact hzz
    omega
  have hPa := hP' g0 0 h0
  obtain ⟨t2, a1, b1⟩ := k σ' hΦ' T'.heap (locs ++ L) ls hsz (by
      have h : va_at Θ.1 jxCl (Θ.2.2.1 g0 0, jxcon Θ (jxk g0) (σ' g0 0)) t.heap := hPa
      rw [ha0, hfs'] at h
      rw [e1]; exact h) (fun x hx => ⟨by rw [e1]; exact hP' x.1 x.2 (hpr x hx), (hE x hx).2⟩)
    ⟨by rw [hsz]; exact Nat.le_add_right _ _, fun x h1 h2 => by rw [e1, hkk x (Nat.lt_of_lt_of_le h1 hS.1) (fun z => h2 (hAi x z))]; exact hS.2.1 x h1 h2, fun x hx => by
      rcases List.mem_append.mp hx with h | h
      · exact hS.2.2 x h
      · exact hAi _ (hL x h)⟩ hl T' rfl X'
  exact ⟨t2, stp t2 a1, b1⟩
end JN2
