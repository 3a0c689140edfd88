/-! Rows of the law: calls of its helpers, the script, the long array, the switch. -/
/-- what the law's walk may use besides: the script's cell, exceptions -/
def jxOkW (Γ : jxG) (Θ : jxT) (f : Nat → Int32) (n : Nat) : Prop := match Γ with
  | (_, _, _, _, s, _, _, _, _, _, A) => jxZ s ∧ (∀ (q : Nat) (cell : Cell), s.heap[q]? = some cell → cell.vm.isStatics = true → ¬ A q) ∧ n < 2 ^ 31 ∧ Θ.2.2.1 61 0 < s.heap.size ∧ ¬ A (Θ.2.2.1 61 0) ∧ ∃ cell, s.heap[Θ.2.2.1 61 0]? = some cell ∧ s.isArrayOf cell .int ∧ cell.vm ≠ .unknown ∧ cell.slots.size = n ∧ ∀ j, j < n → cell.slots[j]? = some (.int (f j))
section JQW
variable {Γ : jxG} {Θ : jxT} {Φ : jxQc} {Φ' : jxF} {l : Launch} {cc : ByteArray} {nL : Nat} {own : String} {ret : Option FieldType} {rm : Room} {pc q : Nat} {L : List (Option jxV)} {st as rest : List jxV} {σ : jxM}
theorem jW_goodL {y : MethodName} {b : ByteArray} {n : Nat} {ret : Option FieldType} {hh : List (Nat × Nat × Nat × Nat)} (h4 : Cond.codeWith y b n ret hh ∈ jW) : GoodIn jW (Cond.codeWith y b n ret hh :: jW) := by
  have key : ∀ w ∈ Cond.codeWith y b n ret hh :: jW, w ∈ jW := by
    intro w hw
    rcases List.mem_cons.mp hw with rfl | h
    · exact h4
    · exact h
  exact fun w hw => ⟨key w hw, jW_good w (key w hw)⟩
/-- a call of a helper: a cell more, perhaps -/
theorem q_callL {f : Nat → Int32} {nf : Nat} {index maxL n : Nat} {y : MethodName} {bytes : ByteArray} {ret' : Option FieldType} {rm' : Room} {hh : List (Nat × Nat × Nat × Nat)} (X : jxOk Γ Θ l cc nL own ret rm) (Z : jxOkW Γ Θ f nf) (hd : decode cc pc = .ok (.invokestatic index, 3)) (hM : jxMeL l y bytes maxL ret' hh rm' Θ as σ Φ') (w1 : Cond.methodLink own index y ∈ jW) (w2 : Cond.static y ∈ jW) (w3 : Cond.initialized y.cls ∈ jW) (w4 : Cond.codeWith y bytes maxL ret' hh ∈ jW)
    (hy : y.cls ≠ "java/lang/invoke/MethodHandle" ∧ y.cls ≠ "java/lang/invoke/VarHandle" ∧ (parseMethodDescriptor y.desc).map (fun d => d.parameters.length) = some n) (hcs : Φ.2.1 + 1 ≤ rm.cells ∧ Φ.2.2 + 6 ≤ rm.slots) (hr0 : rm'.cells = 1 ∧ rm'.slots = 6) (hR : rm'.frames + 1 ≤ rm.frames ∧ 8 + (maxL + 11) + rm'.locals ≤ rm.locals)
    (hst : st = as.reverse ++ rest) (hn : as.length = n) (hr : rest.length ≤ 8) (hL : L.length = nL) (hq : pc + 3 = q) (kk : ∀ r σ', Φ' r σ' → jxWq Γ Θ (Φ.1, Φ.2.1 + 1, Φ.2.2 + 6) q L (r.toList ++ rest) σ') : jxWq Γ Θ Φ pc L st σ := by
  subst hq; subst hst
  obtain ⟨p, l', e, R, s, m, args, below, meth, c, A⟩ := Γ
  obtain ⟨hx, hb, hml, hown, hts, hret, hlk, hS0, hI, hA1, hA2, hR0, hl0⟩ := X
  obtain ⟨hz, hstat, -⟩ := Z
  subst hR0; subst hl0
  intro H locs ls hP hS hl T hT XT
  have hf := jxA_in hA1 hA2 hS
  have hkeep : ∀ (q : Nat) (cell : Cell), s.heap[q]? = some cell → cell.vm.isStatics = true → H[q]? = some cell := fun q cell h1 h2 => by
    rw [hS.2.1 q (Array.getElem?_eq_some_iff.mp h1).1 (hstat q cell h1 h2)]; exact h1
  have hini : ∀ (a' : Array Value) (U : State), s.WarmedH U.vm → (Cond.initialized y.cls).before a' U = true := fun a' U hW => word_at hW (jW_good _ w3) (hts _ w3)
  have hK : Back l' R p e below s args y 3 8 (PreOf R 1 6 (jxPreZ Θ as σ H.size)) (PostOf (jxQ Θ Φ' (jxA Θ H.size)) 1 6 (jxA Θ H.size)) := va_backW (hh := hh) (bytes := bytes) (maxL := maxL) (ret := ret') (hM H.size) jxPreZ.blind hr0.1 hr0.2 hR.1 hR.2 (pay_in hts (jW_goodL w4)) List.mem_cons_self hini
  have hy2 : y.cls ≠ "java/lang/invoke/MethodHandle" ∧ y.cls ≠ "java/lang/invoke/VarHandle" := ⟨hy.1, hy.2.1⟩
  obtain ⟨mk, methM, cM, hnamed, hmethM, -, -, -, -, -, -, hsigM⟩ := Cond.codeWith_spec (hts _ w4)
  have hstatic : methM.isStatic = true := Cond.static_spec hnamed hmethM (hts _ w2)
  obtain ⟨kP, hkP, -⟩ := className_of_methodNamed hnamed
  have hinitP : kP.init = .initialized := Cond.initialized_spec (findClass_of_methodNamed hnamed) hkP (hts _ w3)
  have hlen : (as.map (jxe Θ.2.2.1)).length = methM.sig.parameters.length := by
    have h2 := hy.2.2
    rw [hsigM] at h2
    rw [List.length_map, hn]
    exact (Option.some.inj h2).symm
  have hdc : decode c.code pc = .ok (.invokestatic index, 3) := by rw [hb]; exact hd
  obtain ⟨vm₁, X₁, hstep₁⟩ := XT.invokestatic hx hown (hts _ w1) hnamed hmethM hstatic hkP hinitP hy2 (g := F0 m pc ls ((as.reverse ++ rest).map (jxe Θ.2.2.1))) rfl (argsL := as.map (jxe Θ.2.2.1)) (rest := rest.map (jxe Θ.2.2.1)) hlen (by simp [F0]) hdc
  have hW1 := X₁.warmed
  obtain ⟨v, ⟨U', l2, c2', s2⟩, X', ⟨g', mk', t, Lx, e1, e2, ⟨⟨r, σ', hv, hΦ, hP'⟩, hsz, hsame⟩, h1, hLx, h2, h3⟩, hsteps⟩ := hK m meth c ⟨T.setVm vm₁, locs, Φ.2.1, Φ.2.2⟩ (F0 m pc ls (rest.map (jxe Θ.2.2.1))) (.invokestatic index) mk (as.map (jxe Θ.2.2.1)).toArray X₁ rfl (hl.1.trans (hL.trans hml.symm)) hdc (lv_room (jxrest _ hr)) (X₁.named hnamed)
    ⟨hcs.1, hcs.2, rfl, by show T.heap.size = H.size; rw [hT], by show jxP Θ σ T.heap; rw [hT]; exact hP, hS0.warm hW1, hz.keep hW1 (fun q cell h1 h2 => by show T.heap[q]? = _; rw [hT]; exact hkeep q cell h1 h2)⟩
  dsimp only [Pt.U, Pt.locs, Pt.cells, Pt.slots] at X' e1 e2 h1 h2 h3 hsteps
  subst h1; subst h2; subst h3
  cases hv
  have eh : ((T.setVm vm₁).calling g' mk' (as.map (jxe Θ.2.2.1)).toArray).heap = H := hT
  rw [eh] at hsz hsame
  have kk' := kk r σ' hΦ U'.heap (locs ++ Lx) ls (by rw [e1]; exact hP') ⟨Nat.le_trans hS.1 (by rw [e1]; exact hsz), fun q h1 h2 => by rw [e1, hsame q (Nat.lt_of_lt_of_le h1 hS.1) (fun z => h2 (hf q z))]; exact hS.2.1 q h1 h2, fun q hq => by
      rcases List.mem_append.mp hq with h | h
      · exact hS.2.2 q h
      · exact hf _ (hLx q h)⟩ hl U' rfl X'
  obtain ⟨t2, a1, b1⟩ := kk'
  have a2 : Steps p.tables e below (doInvoke e ((T.setVm vm₁).setTop (F0 m pc ls (rest.map (jxe Θ.2.2.1)))) [] mk (as.map (jxe Θ.2.2.1)).toArray).1 t2 := by
    cases r with
    | none => exact hsteps.trans a1
    | some v => exact hsteps.trans a1
  exact ⟨t2, hstep₁ _ fun acts => by rw [doInvoke_state]; exact a2, b1⟩
/-- a place of the script -/
theorem q_scr {f : Nat → Int32} {nf j : Nat} {i : Int32} (X : jxOk Γ Θ l cc nL own ret rm) (Z : jxOkW Γ Θ f nf) (hd : decode cc pc = .ok (.iaload, 1)) (hi : i = nI j) (hj : j < nf) (hq : pc + 1 = q) (k : jxWq Γ Θ Φ q L (.inl (f j) :: st) σ) : jxWq Γ Θ Φ pc L (.inl i :: .inr (61, 0) :: st) σ := by
  subst hi; subst hq
  obtain ⟨p, l', e, R, s, m, args, below, meth, c, A⟩ := Γ
  obtain ⟨hx, hb, hml, hown, hts, hret, hlk, hS0, hI, hA1, hA2, hR0, hl0⟩ := X
  obtain ⟨-, -, hn, hlt, hA, cell, h1, h2, h3, h4, h5⟩ := Z
  intro H locs ls hP hS hl
  have hc : H[Θ.2.2.1 61 0]? = some cell := by rw [hS.2.1 _ hlt hA]; exact h1
  exact W.iald (v := .int (f j)) hx hb hc h2 h3 (by rw [h4]; exact vp_in_nI hj hn) (by rw [nI_clamp (by omega)]; exact h5 j hj) rfl rfl hd (k H locs ls hP hS hl)
/-- the script's length -/
theorem q_slen {f : Nat → Int32} {nf : Nat} (X : jxOk Γ Θ l cc nL own ret rm) (Z : jxOkW Γ Θ f nf) (hd : decode cc pc = .ok (.arraylength, 1)) (hq : pc + 1 = q) (k : jxWq Γ Θ Φ q L (.inl (nI nf) :: st) σ) : jxWq Γ Θ Φ pc L (.inr (61, 0) :: st) σ := by
  subst hq
  obtain ⟨p, l', e, R, s, m, args, below, meth, c, A⟩ := Γ
  obtain ⟨hx, hb, hml, hown, hts, hret, hlk, hS0, hI, hA1, hA2, hR0, hl0⟩ := X
  obtain ⟨-, -, hn, hlt, hA, cell, h1, h2, h3, h4, h5⟩ := Z
  intro H locs ls hP hS hl
  have hc : H[Θ.2.2.1 61 0]? = some cell := by rw [hS.2.1 _ hlt hA]; exact h1
  exact W.alen (n := nI nf) hx hb hc h2 (by rw [h4]; rfl) rfl rfl hd (k H locs ls hP hS hl)
/-- laload; iload; i2l; lcmp of equal values -/
theorem q_same (X : jxOk Γ Θ l cc nL own ret rm) {g r n j i : Nat} {v : Int32} {iv : Int32} (hd : decode cc pc = .ok (.laload, 1)) (hd1 : decode cc (pc + 1) = .ok (.iload i, 2)) (hd2 : decode cc (pc + 3) = .ok (.i2l, 1)) (hd3 : decode cc (pc + 4) = .ok (.lcmp, 1)) (hk : jxk g = .inr (.inl (3, n))) (hn : n < 2 ^ 31) (hi : iv = nI j) (hj : j < n) (hp : Θ.2.2.2 g r) (hv : σ g r j = v) (hl1 : L[i]? = some (some (.inl v))) (hq : pc + 5 = q)
    (k : jxWq Γ Θ Φ q L (.inl (nI 0) :: st) σ) : jxWq Γ Θ Φ pc L (.inl iv :: .inr (g, r) :: st) σ := by
  subst hi; subst hq
  obtain ⟨p, l', e, R, s, m, args, below, meth, c, A⟩ := Γ
  obtain ⟨hx, hb, hml, hown, hts, hret, hlk, hS0, hI, hA1, hA2, hR0, hl0⟩ := X
  intro H locs ls hP hS hl
  have h0 := hP g r hp
  rw [hk] at h0
  have h0 : H[Θ.2.2.1 g r]? = some (arrV (Θ.2.1 3) n (fun j => .long (σ g r j).toInt64)) := h0
  have hin := vp_in_nI hj hn
  refine W.lald (v := .long v.toInt64) hx hb h0 ((hS0.1.2 3 _ (rfl : (jxtys Θ.2.1)[3]? = some (Θ.2.1 3, .long))).1 n (fun j => .long (σ g r j).toInt64)) (fun q => by cases q) (by rw [arrV_size]; exact hin) (by rw [nI_clamp (by omega), arrV_read _ _ hj, hv]) rfl rfl hd ?_
  refine W.eq (g2 := F0 m (pc + 1) ls (.long v.toInt64 :: st.map (jxe Θ.2.2.1))) rfl ?_
  refine lv_iload hx hb hd1 (hl.2.2 _ _ hl1) ?_
  refine lv_i2l hx hb (v := v.toInt64) hd2 rfl ?_
  refine W.lcmp hx hb hd3 ?_
  have e0 : lg_cmp v.toInt64 v.toInt64 = nI 0 := by simp [lg_cmp]; rfl
  rw [e0]
  exact k H locs ls hP hS hl
/-- the switch, at one of its cases -/
theorem q_table (X : jxOk Γ Θ l cc nL own ret rm) {dflt lo hi : Int} {offs : Array Int} {len tgt : Nat} {x : Int32} {off : Int} (hd : decode cc pc = .ok (.tableswitch dflt lo hi offs, len)) (h1 : ¬ x.toInt < lo) (h2 : ¬ hi < x.toInt) (ho : offs[(x.toInt - lo).toNat]? = some off) (ht : (pc : Int) + off = (tgt : Int)) (k : jxWq Γ Θ Φ tgt L st σ) : jxWq Γ Θ Φ pc L (.inl x :: st) σ := by
  obtain ⟨p, l', e, R, s, m, args, below, meth, c, A⟩ := Γ
  obtain ⟨hx, hb, hml, hown, hts, hret, hlk, hS0, hI, hA1, hA2, hR0, hl0⟩ := X
  intro H locs ls hP hS hl
  exact lv_tableIn hx hb hd h1 h2 ho ht (k H locs ls hP hS hl)
theorem q_tableOut (X : jxOk Γ Θ l cc nL own ret rm) {dflt lo hi : Int} {offs : Array Int} {len tgt : Nat} {x : Int32} (hd : decode cc pc = .ok (.tableswitch dflt lo hi offs, len)) (h : x.toInt < lo ∨ hi < x.toInt) (ht : (pc : Int) + dflt = (tgt : Int)) (k : jxWq Γ Θ Φ tgt L st σ) : jxWq Γ Θ Φ pc L (.inl x :: st) σ := by
  obtain ⟨p, l', e, R, s, m, args, below, meth, c, A⟩ := Γ
  obtain ⟨hx, hb, hml, hown, hts, hret, hlk, hS0, hI, hA1, hA2, hR0, hl0⟩ := X
  intro H locs ls hP hS hl
  exact lv_tableOut hx hb hd h ht (k H locs ls hP hS hl)
end JQW
