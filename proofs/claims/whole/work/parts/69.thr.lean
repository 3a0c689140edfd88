/-! The contract of a method that throws. -/
theorem jvp_nst (cA : ClassId) (a : vp_A) : (vp_cell cA a).vm.isStatics = false := by
  unfold vp_cell
  split <;> rfl
theorem jxP.nst {Θ : jxT} {σ : jxM} {H : Heap} (h : jxP Θ σ H) {g r : Nat} (hp : Θ.2.2.2 g r) {cell : Cell} (hc : H[Θ.2.2.1 g r]? = some cell) : cell.vm.isStatics = false := by
  have h0 := h g r hp
  revert h0
  generalize jxcon Θ (jxk g) (σ g r) = E
  intro h0
  cases E with
  | inl a =>
    have h1 : H[Θ.2.2.1 g r]? = some (vp_cell a.1 a.2) := h0
    cases hc.symm.trans h1
    exact jvp_nst _ _
  | inr o =>
    obtain ⟨r0, h1, c, q1, q2, q3, q4⟩ := h0
    have q1 : H[Θ.2.2.1 g r]? = some c := q1
    cases hc.symm.trans q1
    rw [q3]; rfl
def jxPreZ (Θ : jxT) (as : List jxV) (σ : jxM) (sz : Nat) : Array Value → State → Prop := va_Pc (as.map (jxe Θ.2.2.1)) (fun U => U.heap.size = sz ∧ jxP Θ σ U.heap ∧ jxS Θ U ∧ jxZ U)
def jxThr (l : Launch) (y : MethodName) (cc : ByteArray) (maxL : Nat) (ret : Option FieldType) (rm : Room) (Θ : jxT) (as : List jxV) (σ : jxM) (E : String) : Prop := ∀ sz, MetFree l y (headSpec (Cond.code y cc maxL ret :: jW) rm) (jxPreZ Θ as σ sz) (fun _ _ _ _ _ => True) (jxQT Θ E σ (jxA Θ sz))
theorem jxThr.of {l : Launch} {y : MethodName} {rm : Room} {Θ : jxT} {as : List jxV} {σ : jxM} {E : String} {cc : ByteArray} {maxL : Nat} {ret : Option FieldType} {own : String} (hI : jxI Θ) (htr : l.stackTraces = false) (hy : plainName y.cls = true) (ho : y.cls = own) (hlen : as.length ≤ maxL)
    (body : ∀ Γ : jxG, jxOk Γ Θ l cc maxL own ret rm → jxOkT Γ → jxWq Γ Θ (jxTP Γ Θ E σ) 0 (as.map some ++ List.replicate (maxL - as.length) none) [] σ) : jxThr l y cc maxL ret rm Θ as σ E := by
  intro sz
  subst ho
  refine MetFree.of_bodyS (code := cc) (maxLocals := maxL) (ret := ret) hy ?_ ?_
  · intro args s m h hn
    obtain ⟨meth, c, h1, h2, h3, h4, h5, h6, -, -⟩ := Cond.code_spec hn (atoms_spec (ws := Cond.code y cc maxL ret :: jW) h _ List.mem_cons_self)
    exact ⟨meth, c, h1, h2, h3, h4, h5, h6⟩
  · intro p e s m args below meth c s₁ B hml hv _
    obtain ⟨rfl, hsz, hP, hS, hZ⟩ := hv
    subst hsz
    have hh0 : s₁.heap = s.heap := by rw [B.state]; rfl
    have hcode : (Cond.code y cc maxL ret).before (as.map (jxe Θ.2.2.1)).toArray s = true := atoms_spec (ws := Cond.code y cc maxL ret :: jW) B.pre _ List.mem_cons_self
    have K := body (p, l, e, (headSpec (Cond.code y cc maxL ret :: jW) rm).room, s, m, (as.map (jxe Θ.2.2.1)).toArray, below, meth, c, jxA Θ s.heap.size) ⟨B.exec, B.bytes, hml, findClass_of_methodNamed B.named, fun w hw => atoms_spec (ws := Cond.code y cc maxL ret :: jW) B.pre w (List.mem_cons_of_mem _ hw), B.returns, B.notSynchronized, hS, hI, fun g r h => Or.inl ⟨g, r, h, rfl⟩, fun q h => Or.inr h, rfl, rfl⟩
      ⟨hZ, fun q cell h1 h2 h3 => by
        rcases h3 with ⟨g, r, h4, rfl⟩ | h3
        · rw [hP.nst h4 h1] at h2; cases h2
        · exact absurd (Array.getElem?_eq_some_iff.mp h1).1 (Nat.not_lt.mpr h3), B.noHandlers hcode, htr⟩ s.heap [] _ hP va_S.rf (jxL.entry Θ.2.2.1 as hlen)
    rw [lg_entry_eq]
    obtain ⟨t, a1, o, b1, b2, b3⟩ := K s₁ hh0 (Stand.of_body B)
    exact ⟨t, o, a1, b1, b2, b3⟩
