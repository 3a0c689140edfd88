/-! The law's helpers: a method with a table of handlers, a call that throws and is caught, the long array. -/
theorem jxPreZ.blind {Θ : jxT} {as : List jxV} {σ : jxM} {sz : Nat} : FrameBlind (jxPreZ Θ as σ sz) := fun a U g mk q => ⟨q.1, q.2.1, q.2.2.1, ⟨va_K.moved (u := U) (U := U.calling g mk a) (Vm.Alike.refl U.vm) q.2.2.2.1.1, fun w hw => jxnst_same (s := U) (U := U.calling g mk a) rfl hw (q.2.2.2.1.2 w hw)⟩, q.2.2.2.2.calling g mk a⟩
theorem jxL.drop {ad : Nat → Nat → Nat} {ls' : Array Slot} {L : List (Option jxV)} {i : Nat} {v : Value} (h : lv_has ls' L.length ((i, v) :: (jxpr ad 0 L).filter (fun q => !(q.1 == i) && !(q.1 + 1 == i && q.2.category == 2)))) : jxL ad ls' (L.set i none) := by
  refine ⟨by rw [List.length_set]; exact h.1, h.2.1, fun k w hk => ?_⟩
  by_cases hki : i = k
  · subst hki
    have hlt : i < L.length := by
      have := (List.getElem?_eq_some_iff.mp hk).1
      simpa using this
    rw [List.getElem?_set_self hlt] at hk
    cases hk
  · rw [List.getElem?_set_ne hki] at hk
    refine h.2.2 (k, jxe ad w) (List.mem_cons_of_mem _ (List.mem_filter.mpr ⟨(jxpr_mem ad 0 L _).mpr ⟨k, w, hk, by simp⟩, ?_⟩))
    have hc : ((jxe ad w).category == 2) = false := by rw [jxe_cat]; rfl
    have hk' : (k == i) = false := by simpa using fun q : k = i => hki q.symm
    simp [hk', hc]
/-- what a walk with handlers may use besides -/
def jxOkL (Γ : jxG) (hh : List (Nat × Nat × Nat × Nat)) : Prop := match Γ with
  | (_, _, _, _, s, _, _, _, _, c, A) => jxZ s ∧ (∀ (q : Nat) (cell : Cell), s.heap[q]? = some cell → cell.vm.isStatics = true → ¬ A q) ∧ c.exceptionTable.toList = tableOf hh
def jxLQ (Γ : jxG) (Θ : jxT) (Φ : jxF) (k n : Nat) : jxQc := match Γ with
  | (_, _, _, _, s, _, args, below, _, _, A) => (MQ below (jxQ Θ Φ A) args s 1 6 A, k, n)
theorem jxLQ_2 (Γ : jxG) (Θ : jxT) (Φ : jxF) (k n : Nat) : (jxLQ Γ Θ Φ k n).2.1 = k ∧ (jxLQ Γ Θ Φ k n).2.2 = n := by
  obtain ⟨p, l', e, R, s, m, args, below, meth, c, A⟩ := Γ
  exact ⟨rfl, rfl⟩
def jxMeL (l : Launch) (y : MethodName) (cc : ByteArray) (maxL : Nat) (ret : Option FieldType) (hh : List (Nat × Nat × Nat × Nat)) (rm : Room) (Θ : jxT) (as : List jxV) (σ : jxM) (Φ : jxF) : Prop := ∀ sz, Met l y (Cond.codeWith y cc maxL ret hh :: jW) rm (jxPreZ Θ as σ sz) (jxQ Θ Φ (jxA Θ sz)) 1 6 (jxA Θ sz)
theorem jxMeL.of {l : Launch} {y : MethodName} {rm : Room} {Θ : jxT} {as : List jxV} {σ : jxM} {Φ : jxF} {cc : ByteArray} {maxL : Nat} {ret : Option FieldType} {hh : List (Nat × Nat × Nat × Nat)} {own : String} (hI : jxI Θ) (hy : plainName y.cls = true) (ho : y.cls = own) (hlen : as.length ≤ maxL)
    (body : ∀ Γ : jxG, jxOk Γ Θ l cc maxL own ret rm → jxOkL Γ hh → jxWq Γ Θ (jxLQ Γ Θ Φ 0 0) 0 (as.map some ++ List.replicate (maxL - as.length) none) [] σ) : jxMeL l y cc maxL ret hh rm Θ as σ Φ := by
  intro sz
  subst ho
  refine va_MetW (hh := hh) hy rfl ?_
  intro p e s m args below meth c s₁ B hml hv
  obtain ⟨rfl, hsz, hP, hS, hZ⟩ := hv
  subst hsz
  have hcode : (Cond.codeWith y cc maxL ret hh).before (as.map (jxe Θ.2.2.1)).toArray s = true := atoms_spec (ws := Cond.codeWith y cc maxL ret hh :: jW) B.pre _ List.mem_cons_self
  have htab : c.exceptionTable.toList = tableOf hh := by
    obtain ⟨m9, meth9, c9, hn9, h1, h2, -, -, h6, -⟩ := Cond.codeWith_spec hcode
    cases Option.some.inj (hn9.symm.trans B.named)
    cases Option.some.inj (h1.symm.trans B.method)
    cases Option.some.inj (h2.symm.trans (Stand.of_body B).code)
    rw [← h6, table_eq]
  rw [lg_entry_eq]
  exact body (p, l, e, (headSpec (Cond.codeWith y cc maxL ret hh :: jW) rm).room, s, m, (as.map (jxe Θ.2.2.1)).toArray, below, meth, c, jxA Θ s.heap.size) ⟨B.exec, B.bytes, hml, findClass_of_methodNamed B.named, fun w hw => atoms_spec (ws := Cond.codeWith y cc maxL ret hh :: jW) B.pre w (List.mem_cons_of_mem _ hw), B.returns, B.notSynchronized, hS, hI, fun g r h => Or.inl ⟨g, r, h, rfl⟩, fun q h => Or.inr h, rfl, rfl⟩
    ⟨hZ, fun q cell h1 h2 h3 => by
      rcases h3 with ⟨g, r, h4, rfl⟩ | h3
      · rw [hP.nst h4 h1] at h2; cases h2
      · exact absurd (Array.getElem?_eq_some_iff.mp h1).1 (Nat.not_lt.mpr h3), htab⟩ s.heap [] _ hP va_S.rf (jxL.entry Θ.2.2.1 as hlen)
section JQL
variable {Γ : jxG} {Θ : jxT} {Φ : jxQc} {Φ' : jxF} {l : Launch} {cc : ByteArray} {nL : Nat} {own : String} {ret : Option FieldType} {rm : Room} {pc q : Nat} {L : List (Option jxV)} {st as rest : List jxV} {σ : jxM}
theorem q_iret (X : jxOk Γ Θ l cc nL own (some .int) rm) {v : Int32} (hd : decode cc pc = .ok (.ireturn, 1)) (h : Φ' (some (.inl v)) σ) : jxWq Γ Θ (jxLQ Γ Θ Φ' 1 6) pc L [.inl v] σ := by
  obtain ⟨p, l', e, R, s, m, args, below, meth, c, A⟩ := Γ
  obtain ⟨hx, hb, hml, hown, hts, hret, hlk, hS0, hI, hA1, hA2, hR0, hl0⟩ := X
  intro H locs ls hP hS hl
  exact W.iret (v := v) hx hb hret (fun t ht hW => ⟨⟨some (.inl v), σ, rfl, h, by rw [ht]; exact hP⟩, hS.F ht⟩) hS.2.2 hd hlk
theorem q_wide {k n k' n' : Nat} (h1 : k ≤ k') (h2 : n ≤ n') (kk : jxWq Γ Θ (Φ.1, k', n') pc L st σ) : jxWq Γ Θ (Φ.1, k, n) pc L st σ := by
  obtain ⟨p, l', e, R, s, m, args, below, meth, c, A⟩ := Γ
  intro H locs ls hP hS hl
  exact W.widen h1 h2 (kk H locs ls hP hS hl)
theorem jxLQ_w {k n : Nat} (kk : jxWq Γ Θ (jxLQ Γ Θ Φ' 1 6) pc L st σ) (h1 : k ≤ 1) (h2 : n ≤ 6) : jxWq Γ Θ (jxLQ Γ Θ Φ' k n) pc L st σ := by
  obtain ⟨p, l', e, R, s, m, args, below, meth, c, A⟩ := Γ
  intro H locs ls hP hS hl
  exact W.widen h1 h2 (kk H locs ls hP hS hl)
/-- an int into a long array -/
theorem q_i2last (X : jxOk Γ Θ l cc nL own ret rm) {x : Int32} {g r n j : Nat} {i : Int32} (hd : decode cc pc = .ok (.i2l, 1)) (hd2 : decode cc (pc + 1) = .ok (.lastore, 1)) (hk : jxk g = .inr (.inl (3, n))) (hn : n < 2 ^ 31) (hi : i = nI j) (hj : j < n) (hp : Θ.2.2.2 g r) (hq : pc + 2 = q)
    (k : jxWq Γ Θ Φ q L st (jxs σ g r j x)) : jxWq Γ Θ Φ pc L (.inl x :: .inl i :: .inr (g, r) :: st) σ := by
  subst hi
  subst hq
  obtain ⟨p, l', e, R, s, m, args, below, meth, c, A⟩ := Γ
  obtain ⟨hx, hb, hml, hown, hts, hret, hlk, hS0, hI, hA1, hA2, hR0, hl0⟩ := X
  intro H locs ls hP hS hl
  have h0 := hP g r hp
  rw [hk] at h0
  have h0 : H[Θ.2.2.1 g r]? = some (arrV (Θ.2.1 3) n (fun j => .long (σ g r j).toInt64)) := h0
  have hin := vp_in_nI hj hn
  refine lv_i2l hx hb (v := x.toInt64) hd rfl ?_
  refine W.last hx hb h0 ((hS0.1.2 3 _ (rfl : (jxtys Θ.2.1)[3]? = some (Θ.2.1 3, .long))).1 n (fun j => .long (σ g r j).toInt64)) (fun q => by cases q) (by rw [arrV_size]; exact hin) rfl rfl hd2 fun H1 e z oq => ?_
  rw [nI_clamp (by omega)] at e ⊢
  refine k H1 _ ls (hP.set hI hp ?_ oq) (hS.put z oq (hA1 g r hp)) hl
  rw [hk]
  show H1[Θ.2.2.1 g r]? = some (arrV (Θ.2.1 3) n (fun i => .long (upd (σ g r) j x i).toInt64))
  rw [e, arrV_store]
  congr 2
  funext i
  by_cases hq : i = j
  · subst hq
    simp [updV, upd]
  · simp [updV, upd, hq]
/-- a walk at a handler: the exception alone on the stack -/
def jxWr (Γ : jxG) (Θ : jxT) (Φ : jxQc) (pc : Nat) (L : List (Option jxV)) (σ : jxM) : Prop := match Γ with
  | (p, l, e, R, s, m, args, below, meth, c, A) => ∀ (H : Heap) (locs : List Loc) (ls : Array Slot) (x : Nat), jxP Θ σ H → va_S A s.heap H locs → jxL Θ.2.2.1 ls L → W p l e R s m args below meth c H locs Φ.2.1 Φ.2.2 Φ.1 (F0 m pc ls [.ref x])
theorem r_astore (X : jxOk Γ Θ l cc nL own ret rm) {i : Nat} (hd : decode cc pc = .ok (.astore i, 2)) (hi : i < L.length) (hq : pc + 2 = q) (k : jxWq Γ Θ Φ q (L.set i none) [] σ) : jxWr Γ Θ Φ pc L σ := by
  subst hq
  obtain ⟨p, l', e, R, s, m, args, below, meth, c, A⟩ := Γ
  obtain ⟨hx, hb, hml, hown, hts, hret, hlk, hS0, hI, hA1, hA2, hR0, hl0⟩ := X
  intro H locs ls x hP hS hl
  exact lv_astore hx hb hd hl.has hi rfl (fun ls' h' => k H locs ls' hP hS (jxL.drop h'))
theorem r_astore_n (X : jxOk Γ Θ l cc nL own ret rm) {i : Fin 4} {j : Nat} (hd : decode cc pc = .ok (.astore_n i, 1)) (hij : (i : Nat) = j) (hi : j < L.length) (hq : pc + 1 = q) (k : jxWq Γ Θ Φ q (L.set j none) [] σ) : jxWr Γ Θ Φ pc L σ := by
  subst hq
  obtain ⟨p, l', e, R, s, m, args, below, meth, c, A⟩ := Γ
  obtain ⟨hx, hb, hml, hown, hts, hret, hlk, hS0, hI, hA1, hA2, hR0, hl0⟩ := X
  intro H locs ls x hP hS hl
  exact lv_astore_n hx hb hd hij hl.has hi rfl (fun ls' h' => k H locs ls' hP hS (jxL.drop h'))
end JQL
theorem jas_self (vm : Vm) (c : ClassId) : vm.assignable c c = true := by
  show vm.assignableAux _ c c = true
  unfold Vm.assignableAux
  simp
/-- a method on an object that throws; the row of the table that catches it -/
theorem q_caught {Γ : jxG} {Θ : jxT} {Φ : jxQc} {l : Launch} {cc : ByteArray} {nL : Nat} {own : String} {ret : Option FieldType} {rm : Room} {pc : Nat} {L : List (Option jxV)} {st as rest : List jxV} {σ : jxM} {index maxL n : Nat} {y : MethodName} {bytes : ByteArray} {ret' : Option FieldType} {rm' : Room} {hh pre post : List (Nat × Nat × Nat × Nat)} {ca cb hpc ct : Nat} {E : String}
    {g r ci N : Nat} {fl : List (Option Nat)} {C : String} {T0 : u_T} (X : jxOk Γ Θ l cc nL own ret rm) (Y : jxOkL Γ hh) (hd : decode cc pc = .ok (.invokevirtual index, 3)) (hM : jxThr l y bytes maxL ret' rm' Θ (.inr (g, r) :: as) σ E) (hk : jxk g = .inl (ci, fl)) (hc : jxCl[ci]? = some (C, T0, N)) (hp : Θ.2.2.2 g r) (w1 : Cond.methodLink own index y ∈ jW) (w2 : Cond.instanceMethod y ∈ jW) (w3 : Cond.selects C y y ∈ jW) (w5 : Cond.initialized y.cls ∈ jW) (w4 : Cond.code y bytes maxL ret' ∈ jW)
    (hy : y.cls = C ∧ y.cls ≠ "java/lang/invoke/MethodHandle" ∧ y.cls ≠ "java/lang/invoke/VarHandle" ∧ (parseMethodDescriptor y.desc).map (fun d => d.parameters.length) = some n) (hcs : Φ.2.1 + 1 ≤ rm.cells ∧ Φ.2.2 + 6 ≤ rm.slots) (hr0 : rm'.cells = 1 ∧ rm'.slots = 6) (hR : rm'.frames + 1 ≤ rm.frames ∧ 8 + (maxL + 11) + rm'.locals ≤ rm.locals)
    (hst : st = as.reverse ++ .inr (g, r) :: rest) (hn : as.length = n) (hr : rest.length ≤ 8) (hL : L.length = nL)
    (htab : hh = pre ++ (ca, cb, hpc, ct) :: post) (hcov : covers ⟨ca, cb, hpc, ct⟩ pc = true) (hct : ct ≠ 0) (wE : Cond.classLink own ct E ∈ jW) (hpass : ∀ q ∈ pre, q.2.2.2 ≠ 0 ∧ ∃ nm, Cond.classLink own q.2.2.2 nm ∈ jW ∧ (E, nm) ∈ jxprs)
    (k : jxWr Γ Θ (Φ.1, Φ.2.1 + 1, Φ.2.2 + 6) hpc L σ) : jxWq Γ Θ Φ pc L st σ := by
  subst hst
  obtain ⟨p, l', e, R, s, m, args, below, meth, c, A⟩ := Γ
  obtain ⟨hx, hb, hml, hown, hts, hret, hlk, hS0, hI, hA1, hA2, hR0, hl0⟩ := X
  obtain ⟨hz, hstat, hTab⟩ := Y
  subst hR0; subst hl0
  intro H locs ls hP hS hl T hT XT
  have hf := jxA_in hA1 hA2 hS
  have hkeep : ∀ (q : Nat) (cell : Cell), s.heap[q]? = some cell → cell.vm.isStatics = true → H[q]? = some cell := fun q cell h1 h2 => by
    rw [hS.2.1 q (Array.getElem?_eq_some_iff.mp h1).1 (hstat q cell h1 h2)]; exact h1
  have hws := pay_in hts (jW_goodN w4)
  have hini : ∀ (a' : Array Value) (U : State), s.WarmedH U.vm → (Cond.initialized y.cls).before a' U = true := fun a' U hW => word_at hW (jW_good _ w5) (hts _ w5)
  have hK : BackT l' R p e below s args y 3 8 (fun P a => P.cells + 1 ≤ R.cells ∧ P.slots + 6 ≤ R.slots ∧ P.U.heap = H ∧ jxPreZ Θ (.inr (g, r) :: as) σ H.size a P.U)
      (fun P a v B => ∃ (t : State) (Lx : List Loc), B.U.heap = t.heap ∧ (∃ cell, t.heap[v]? = some cell ∧ cell.vm = .none ∧ P.U.vm.findClass E = some cell.cls) ∧ jxP Θ σ t.heap ∧ (H.size ≤ t.heap.size ∧ ∀ q : Nat, q < H.size → ¬ jxA Θ H.size q → t.heap[q]? = H[q]?) ∧ B.locs = P.locs ++ Lx ∧ (∀ q ∈ Lx, jxA Θ H.size q.base) ∧ B.cells = P.cells + 1 ∧ B.slots = P.slots + 6) := by
    refine BackT.of_free (S := headSpec (Cond.code y bytes maxL ret' :: jW) rm') (P := jxPreZ Θ (.inr (g, r) :: as) σ H.size) (K := fun _ _ _ _ _ => True) (Q := jxQT Θ E σ (jxA Θ H.size)) (bytes := bytes) (maxL := maxL) (ret := ret')
      (E := fun a st o t Lx k n => k = 1 ∧ n = 6 ∧ ∀ q ∈ Lx, jxA Θ H.size q.base) (hM H.size) hR.1 hR.2 ?_ ?_ (fun _ _ _ _ _ _ _ _ _ => trivial) ?_ ?_
    · intro m meth c P a XX hp
      exact ⟨atoms_intro fun w hw => hws w hw _ _ XX.warmed, hws _ List.mem_cons_self _ _ XX.warmed, hini _ _ XX.warmed, by rw [show (headSpec (Cond.code y bytes maxL ret' :: jW) rm').room.cells = 1 from hr0.1]; exact hp.1, by rw [show (headSpec (Cond.code y bytes maxL ret' :: jW) rm').room.slots = 6 from hr0.2]; exact hp.2.1⟩
    · intro m meth c P a g mk XX hp
      exact jxPreZ.blind _ _ _ _ hp.2.2.2
    · rintro a st o t ⟨v, h1, h2, h3, h4, Lx, h5, h6⟩
      exact ⟨Lx, 1, 6, h5, rfl, rfl, h6⟩
    · rintro m meth c P a g mk v t Lx k n XX hp ⟨v', h1, ⟨cell, h2, h2', h2''⟩, h3, ⟨h4, h4'⟩, -⟩ hF ⟨e1, e2, hLx⟩
      subst e1; subst e2
      cases h1
      have eh : (P.U.calling g mk a).heap = H := hp.2.2.1
      rw [eh] at h4 h4'
      exact ⟨t, Lx, rfl, ⟨cell, h2, h2', h2''⟩, h3, ⟨h4, h4'⟩, rfl, hLx, rfl, rfl⟩
  obtain ⟨cellB, hcB, hoB, hclB⟩ := jxrecv hS0 hP hk hc hp
  have hy2 : y.cls ≠ "java/lang/invoke/MethodHandle" ∧ y.cls ≠ "java/lang/invoke/VarHandle" := ⟨hy.2.1, hy.2.2.1⟩
  obtain ⟨mk, methM, hnamed, hmethM, hstM, habM⟩ := Cond.instanceMethod_spec (hts _ w2)
  obtain ⟨methM', cM, hmethM', -, -, -, -, -, -, hsigM⟩ := Cond.code_spec hnamed (hts _ w4)
  cases hmethM.symm.trans hmethM'
  obtain ⟨c2, r2, m2, q1, q2, q3, q4, kP, hkP, hkPi⟩ := Cond.selects_spec (hts _ w3)
  cases hclB.symm.trans q1
  cases (State.methodFound?_of_named hnamed hy2).symm.trans q2
  cases hnamed.symm.trans q3
  have hselP : selectMethod e.platform s.vm cellB.cls mk = .method mk := by rw [Launch.admits_selectMethod XT.admits]; exact q4
  have hlen : (as.map (jxe Θ.2.2.1)).length = methM.sig.parameters.length := by
    have h2 := hy.2.2.2
    rw [hsigM] at h2
    rw [List.length_map, hn]
    exact (Option.some.inj h2).symm
  have hdc : decode c.code pc = .ok (.invokevirtual index, 3) := by rw [hb]; exact hd
  obtain ⟨vm₁, X₁, hstep₁⟩ := XT.invokevirtual hx hown (hts _ w1) hnamed hmethM hstM hkP hkPi hy2 (a := Θ.2.2.1 g r) (cell := cellB) (by rw [hT]; exact hcB)
    (fun z h => by rw [h] at hoB; cases hoB) hselP hmethM habM hkP hkPi (g := F0 m pc ls ((as.reverse ++ .inr (g, r) :: rest).map (jxe Θ.2.2.1))) rfl (argsL := as.map (jxe Θ.2.2.1)) (rest := rest.map (jxe Θ.2.2.1)) hlen (by simp [F0, jxe]) hdc
  have hW1 := X₁.warmed
  obtain ⟨v, ⟨U', l2, c2', s2⟩, X', ⟨t, Lx, e1, ⟨cell, hce, hcv, hcl⟩, hP', ⟨hsz, hsame⟩, h1, hLx, h2, h3⟩, hsteps⟩ := hK m meth c ⟨T.setVm vm₁, locs, Φ.2.1, Φ.2.2⟩ (F0 m pc ls (rest.map (jxe Θ.2.2.1))) (.invokevirtual index) mk (Value.ref (Θ.2.2.1 g r) :: as.map (jxe Θ.2.2.1)).toArray X₁ rfl (hl.1.trans (hL.trans hml.symm)) hdc (lv_room (jxrest _ hr)) (X₁.named hnamed)
    ⟨hcs.1, hcs.2, hT, rfl, by show T.heap.size = H.size; rw [hT], by show jxP Θ σ T.heap; rw [hT]; exact hP, hS0.warm hW1, hz.keep hW1 (fun q cell h1 h2 => by show T.heap[q]? = _; rw [hT]; exact hkeep q cell h1 h2)⟩
  dsimp only [Pt.U, Pt.locs, Pt.cells, Pt.slots] at X' e1 h1 h2 h3 hcl hsteps
  subst h1; subst h2; subst h3
  have hclE : s.vm.findClass E = some cell.cls := by
    have h : vm₁.findClass E = some cell.cls := hcl
    exact (hW1.alike.findClass E _).symm.trans h
  have hpl : e.platform.magicAccessors = ({} : Platform).magicAccessors := by rw [XT.admits.platform]
  obtain ⟨hend, hk0⟩ := X'.catches_of_link hown (x := ⟨ca, cb, hpc, ct⟩) hct (hts _ wE) hclE (jas_self s.vm cell.cls)
  obtain ⟨vm', XV, stV⟩ := X'.thenCaughtThrough v (g := F0 m pc ls (rest.map (jxe Θ.2.2.1))) rfl (hstep₁ _ fun acts => by rw [doInvoke_state]; exact hsteps) (cell := cell) (by rw [e1]; exact hce) (by rw [hcv]; rfl) hk0 (tableOf pre) ⟨ca, cb, hpc, ct⟩ (tableOf post)
    (by rw [hTab, htab]; simp [tableOf]) (fun y hy => by
      obtain ⟨q, hq, rfl⟩ := List.mem_map.mp hy
      obtain ⟨h0, nm, hw, hpr⟩ := hpass q hq
      obtain ⟨c', hc', hcl'⟩ := Cond.classLink_spec hown (hts _ hw) e.platform hpl
      obtain ⟨a8, b8, z1, z2, z3⟩ := hz.2.2 _ hpr
      cases Option.some.inj (z1.symm.trans hclE)
      cases Option.some.inj (z2.symm.trans hc')
      exact Or.inr ⟨h0, _, hcl', z3⟩) hcov hend
  obtain ⟨t2, a1, b1⟩ := k U'.heap (locs ++ Lx) ls v (by rw [e1]; exact hP') ⟨Nat.le_trans hS.1 (by rw [e1]; exact hsz), fun q h1 h2 => by rw [e1, hsame q (Nat.lt_of_lt_of_le h1 hS.1) (fun z => h2 (hf q z))]; exact hS.2.1 q h1 h2, fun q hq => by
      rcases List.mem_append.mp hq with h | h
      · exact hS.2.2 q h
      · exact hf _ (hLx q h)⟩ hl (U'.setVm vm') rfl XV
  exact ⟨t2, stV.trans a1, b1⟩
