/-! Constructors: an object being made, the cells made behind it. -/
def jxAO (U : State) : Prop := (Cond.arrayOver (.array .int)).before #[] U = true
theorem jxAO.use {U : State} (h : jxAO U) (a : Array Value) : (Cond.arrayOver (.array .int)).before a U = true := h
theorem jxAO.warm {s U : State} (hW : s.WarmedH U.vm) (h : jxAO s) : jxAO U := by
  have h1 : (Cond.arrayOver (.array .int)).before #[] (s.setVm U.vm) = true := Cond.before_shiftedOver (State.Shifted.of_warmed hW) _ rfl h
  exact h1
theorem jxAO.calling {U : State} (h : jxAO U) (g : JFrame) (mk : MethodId) (a : Array Value) : jxAO (U.calling g mk a) := h.warm (s := U) (State.WarmedH.refl U)
def jxSz (Γ : jxG) : Nat := Γ.2.2.2.2.1.heap.size
def jxOkN (Γ : jxG) (Θ : jxT) (l0 : Launch) (cc : ByteArray) (own : String) (rm : Room) (a : Nat) : Prop := match Γ with
  | (p, l, e, R, s, m, args, below, meth, c, A) => p.tables.exec = Jvm.exec ∧ c.code = cc ∧ c.maxLocals = 1 ∧ s.vm.findClass own = some m.cls ∧ (∀ w ∈ jW, w.before args s = true) ∧ meth.sig.returnType = none ∧ meth.locks = false ∧ meth.name = "<init>" ∧ jxS Θ s ∧ jxAO s ∧ A = (fun q => q = a ∨ s.heap.size ≤ q) ∧ a < s.heap.size ∧ R = rm ∧ l = l0
def jxWn (Γ : jxG) (Θ : jxT) (a ci : Nat) (Q : State → Prop) (slots n pc : Nat) (st fs : List Value) (pr : List (Nat × Nat)) (σ : jxM) : Prop := match Γ with
  | (p, l, e, R, s, m, args, below, meth, c, A) => ∀ (H : Heap) (locs : List Loc) (ls : Array Slot), H.size = s.heap.size + n → va_at Θ.1 jxCl (a, .inr (ci, fs)) H → (∀ q ∈ pr, va_at Θ.1 jxCl (Θ.2.2.1 q.1 q.2, jxcon Θ (jxk q.1) (σ q.1 q.2)) H ∧ s.heap.size ≤ Θ.2.2.1 q.1 q.2) → va_S A s.heap H locs → (ls[0]? = some (.val (.ref a)) ∧ ls.size = 1) → W p l e R s m args below meth c H locs n slots Q (F0 m pc ls st)
def jxRw (Θ : jxT) (rw : Nat → Nat) : jxT := (Θ.1, Θ.2.1, Θ.2.2.1, fun g r => r < rw g)
def jxNPost (Θ : jxT) (rw : Nat → Nat) (K : jxM → Prop) (a sz n : Nat) : Array Value → State → Outcome → State → Prop := fun _ st o t => o = .returned none ∧ (∃ σ, K σ ∧ jxP (jxRw Θ rw) σ t.heap) ∧ t.heap.size = sz + n ∧ va_F (fun q => q = a ∨ sz ≤ q) st t
def jxNPre (Θ : jxT) (ci : Nat) (fs0 : List Value) (a sz : Nat) : Array Value → State → Prop := fun v U => v = #[.ref a] ∧ U.heap.size = sz ∧ va_at Θ.1 jxCl (a, .inr (ci, fs0)) U.heap ∧ jxS Θ U ∧ jxAO U
theorem jxNPre.blind {Θ : jxT} {ci : Nat} {fs0 : List Value} {a sz : Nat} : FrameBlind (jxNPre Θ ci fs0 a sz) := fun v U g mk q => ⟨q.1, q.2.1, q.2.2.1, ⟨va_K.moved (u := U) (U := U.calling g mk v) (Vm.Alike.refl U.vm) q.2.2.2.1.1, fun w hw => jxnst_same (s := U) (U := U.calling g mk v) rfl hw (q.2.2.2.1.2 w hw)⟩, q.2.2.2.2.calling g mk v⟩
/-- the contract of a constructor: the object lies at a, the heap has sz cells -/
def jxNew (l : Launch) (y : MethodName) (cc : ByteArray) (rm : Room) (Θ : jxT) (ci : Nat) (fs0 : List Value) (rw : Nat → Nat) (n ns a sz : Nat) (K : jxM → Prop) : Prop := Met l y (Cond.code y cc 1 none :: jW) rm (jxNPre Θ ci fs0 a sz) (jxNPost Θ rw K a sz n) n ns (fun q => q = a ∨ sz ≤ q)
def jxNQ (Γ : jxG) (Θ : jxT) (rw : Nat → Nat) (K : jxM → Prop) (a n ns : Nat) : State → Prop := match Γ with
  | (_, _, _, _, s, _, args, below, _, _, _) => MQ below (jxNPost Θ rw K a s.heap.size n) args s n ns (fun q => q = a ∨ s.heap.size ≤ q)
theorem jxNew.of {l : Launch} {y : MethodName} {cc : ByteArray} {rm : Room} {Θ : jxT} {ci : Nat} {fs0 : List Value} {rw : Nat → Nat} {n ns a sz : Nat} {K : jxM → Prop} {own : String} (hy : plainName y.cls = true) (ho : y.cls = own) (hn : y.name = "<init>") (ha : a < sz)
    (body : ∀ Γ : jxG, jxOkN Γ Θ l cc own rm a → jxSz Γ = sz → jxWn Γ Θ a ci (jxNQ Γ Θ rw K a n ns) 0 0 0 [] fs0 [] (fun _ _ _ => 0)) : jxNew l y cc rm Θ ci fs0 rw n ns a sz K := by
  subst ho
  refine Met.ofW (cc := cc) (maxL := 1) (ret := none) hy rfl ?_
  intro p e s m args below meth c s₁ B hml hv
  obtain ⟨rfl, hsz, hP, hS, hO⟩ := hv
  subst hsz
  have hnm : meth.name = "<init>" := ((name_of_methodNamed B.named B.method).1).trans hn
  have K0 := body (p, l, e, (headSpec (Cond.code y cc 1 none :: jW) rm).room, s, m, #[.ref a], below, meth, c, fun q => q = a ∨ s.heap.size ≤ q) ⟨B.exec, B.bytes, hml, findClass_of_methodNamed B.named, fun w hw => atoms_spec (ws := Cond.code y cc 1 none :: jW) B.pre w (List.mem_cons_of_mem _ hw), B.returns, B.notSynchronized, hnm, hS, hO, rfl, ha, rfl, rfl⟩ rfl
  exact K0 s.heap [] _ rfl hP (fun q hq => by cases hq) va_S.rf ⟨rfl, rfl⟩
section JN
variable {Γ : jxG} {Θ : jxT} {l : Launch} {cc : ByteArray} {own : String} {rm : Room} {a ci slots n pc q : Nat} {Q : State → Prop} {st fs : List Value} {pr : List (Nat × Nat)} {σ : jxM}
theorem n_load (X : jxOkN Γ Θ l cc own rm a) (hd : decode cc pc = .ok (.aload_n 0, 1)) (hq : pc + 1 = q) (k : jxWn Γ Θ a ci Q slots n q (.ref a :: st) fs pr σ) : jxWn Γ Θ a ci Q slots n pc st fs pr σ := by
  subst hq
  obtain ⟨p, l', e, R, s, m, args, below, meth, c, A⟩ := Γ
  obtain ⟨hx, hb, hml, hown, hts, hret, hlk, hnm, hS0, hO, hA, ha, hR, hl0⟩ := X
  intro H locs ls hz hP hE hS hl
  exact lv_aload_n hx hb hd rfl hl.1 (k H locs ls hz hP hE hS hl)
theorem n_bipush (X : jxOkN Γ Θ l cc own rm a) {x : Int} {v : Int32} (hd : decode cc pc = .ok (.bipush x, 2)) (hv : (Int8.ofInt x).toInt32 = v) (hq : pc + 2 = q) (k : jxWn Γ Θ a ci Q slots n q (.int v :: st) fs pr σ) : jxWn Γ Θ a ci Q slots n pc st fs pr σ := by
  subst hq
  obtain ⟨p, l', e, R, s, m, args, below, meth, c, A⟩ := Γ
  obtain ⟨hx, hb, hml, hown, hts, hret, hlk, hnm, hS0, hO, hA, ha, hR, hl0⟩ := X
  intro H locs ls hz hP hE hS hl
  exact lv_bipush hx hb hd hv (k H locs ls hz hP hE hS hl)
theorem n_sipush (X : jxOkN Γ Θ l cc own rm a) {x : Int} {v : Int32} (hd : decode cc pc = .ok (.sipush x, 3)) (hv : (Int16.ofInt x).toInt32 = v) (hq : pc + 3 = q) (k : jxWn Γ Θ a ci Q slots n q (.int v :: st) fs pr σ) : jxWn Γ Θ a ci Q slots n pc st fs pr σ := by
  subst hq
  obtain ⟨p, l', e, R, s, m, args, below, meth, c, A⟩ := Γ
  obtain ⟨hx, hb, hml, hown, hts, hret, hlk, hnm, hS0, hO, hA, ha, hR, hl0⟩ := X
  intro H locs ls hz hP hE hS hl
  exact lv_sipush hx hb hd hv (k H locs ls hz hP hE hS hl)
/-- the call of Object's constructor -/
theorem n_obj (X : jxOkN Γ Θ l cc own rm a) {idx : Nat} (hd : decode cc pc = .ok (.invokespecial idx, 3)) (w1 : Cond.methodLink own idx Lib.objectInit ∈ jW) (w2 : Cond.instanceMethod Lib.objectInit ∈ jW) (w3 : Cond.code Lib.objectInit ⟨#[0xb1]⟩ 1 none ∈ jW) (hR : 1 ≤ rm.frames ∧ 12 ≤ rm.locals) (hq : pc + 3 = q) (k : jxWn Γ Θ a ci Q slots n q [] fs pr σ) : jxWn Γ Θ a ci Q slots n pc [.ref a] fs pr σ := by
  subst hq
  obtain ⟨p, l', e, R, s, m, args, below, meth, c, A⟩ := Γ
  obtain ⟨hx, hb, hml, hown, hts, hret, hlk, hnm, hS0, hO, hA, ha, hR0, hl0⟩ := X
  subst hR0
  intro H locs ls hz hP hE hS hl
  exact W.objInit hx hb hown (hts _ w1) (hts _ w2) (hts _ w3) rfl (hl.2.trans hml.symm) (rest := []) rfl hd hR.1 (by simpa using hR.2) (k H locs ls hz hP hE hS hl)
theorem n_newa (X : jxOkN Γ Θ l cc own rm a) {atype : ArrayType} {g t N : Nat} {v : Int32} (hd : decode cc pc = .ok (.newarray atype, 2)) (hk : jxk g = .inr (.inl (t, N))) (hE0 : ∀ f, jxcon Θ (.inr (.inl (t, N))) f = .inl (Θ.2.1 t, N, .inl f)) (hty : ∀ cA : Nat → ClassId, (jxtys cA)[t]? = some (cA t, newarray.typeOf atype)) (hdv : defaultValue (newarray.typeOf atype) = .int 0) (w1 : Cond.arrayClass (newarray.typeOf atype) ∈ jW) (hra : ∀ (U : State) (c : ClassId), va_RA U c (newarray.typeOf atype) → U.vm.findClass ("[" ++ (newarray.typeOf atype).toString) = some c)
    (had : Θ.2.2.1 g 0 = jxSz Γ + n) (hσ : σ g 0 = fun _ => 0) (hv : ¬ v < 0) (hN : v.toNatClampNeg = N) (hby : N * componentBytes (newarray.typeOf atype) ≤ 536870912) (hR : n + 1 ≤ rm.cells ∧ slots + N ≤ rm.slots) (hq : pc + 2 = q) (k : jxWn Γ Θ a ci Q (slots + N) (n + 1) q (.ref (Θ.2.2.1 g 0) :: st) fs ((g, 0) :: pr) σ) : jxWn Γ Θ a ci Q slots n pc (.int v :: st) fs pr σ := by
  subst hq
  obtain ⟨p, l', e, R, s, m, args, below, meth, c, A⟩ := Γ
  obtain ⟨hx, hb, hml, hown, hts, hret, hlk, hnm, hS0, hO, hA, ha, hR0, hl0⟩ := X
  subst hR0
  have had : Θ.2.2.1 g 0 = s.heap.size + n := had
  intro H locs ls hz hP hE hS hl
  refine va_newaK hx hb (hts _ w1) rfl hd rfl hv hN hby hR.1 hR.2 hz fun H1 cA e1 z1 o1 hAr hNm => ?_
  have hc : cA = Θ.2.1 t := Option.some.inj (hNm.symm.trans (hra _ _ (hS0.1.2 t _ (hty Θ.2.1)).2))
  subst hc
  rw [← had] at e1 z1 o1 ⊢
  rw [← had] at hz
  have hold : ∀ x : Nat, x < H.size → H1[x]? = H[x]? := fun x hx => o1 x (by rw [← hz]; exact hx)
  refine k H1 locs ls (by rw [z1, had]; omega) (hP.kept (hold _ hP.lt)) (fun x hx => ?_) ⟨Nat.le_trans hS.1 (by omega), fun x h1 h2 => (hold x (Nat.lt_of_lt_of_le h1 hS.1)).trans (hS.2.1 x h1 h2), hS.2.2⟩ hl
  rcases List.mem_cons.mp hx with rfl | hx
  · refine ⟨?_, by rw [had]; exact Nat.le_add_right _ _⟩
    show va_at Θ.1 jxCl (Θ.2.2.1 g 0, jxcon Θ (jxk g) (σ g 0)) H1
    rw [hk, hE0, hσ]
    rw [hdv] at e1
    exact e1
  · exact ⟨(hE x hx).1.kept (hold _ (hE x hx).1.lt), (hE x hx).2⟩
theorem n_put (X : jxOkN Γ Θ l cc own rm a) {ref C : String} {T : u_T} {N index j x : Nat} (hd : decode cc pc = .ok (.putfield index, 3)) (hin : ∀ w ∈ u_ws C T N, w ∈ jW) (hc : jxCl[ci]? = some (C, T, N)) (ty0 : Nat → FieldType) (hty : ∀ k, k < N → parseFieldDescriptor (T k).2.2.1 = some (ty0 k)) (hnm : ∀ a, a < N → ∀ b, b < N → a ≠ b → (T a).2.1 ≠ (T b).2.1) (hlt : j < N) (hlink : Cond.fieldLink own index ref (T j).2.1 (T j).2.2.1 ∈ jW) (href : (T j).1 = ref) (hdec : (T j).1 = own) (hfin : (T j).2.2.2 = true) (hn : narrow (ty0 j) (.ref x) = .ref x) (hfit : fits (ty0 j) (.ref x) = true) (hfl : j < fs.length) (hq : pc + 3 = q)
    (k : jxWn Γ Θ a ci Q slots n q st (fs.set j (.ref x)) pr σ) : jxWn Γ Θ a ci Q slots n pc (.ref x :: .ref a :: st) fs pr σ := by
  subst hq
  obtain ⟨p, l', e, R, s, m, args, below, meth, c, A⟩ := Γ
  obtain ⟨hx, hb, hml, hown, hts, hret, hlk, hnm2, hS0, hO, hA, ha, hR0, hl0⟩ := X
  intro H locs ls hz hP hE hS hl
  have hap := va_apart (own := own) hts hin ty0 hty hnm hS0.1 hc
  have hP0 := hP
  obtain ⟨r0, h1, cell, q1, q2, q3, q4⟩ := hP
  have hr : r0 = (C, T, N) := Option.some.inj (h1.symm.trans hc)
  subst hr
  obtain ⟨hSl, hfc, kC, hkC, hkind⟩ := hS0.1.1 ci _ hc
  obtain ⟨cf, kf, fi, f, hi, hsl⟩ := hSl j hlt
  have hlay := hts _ (hin _ (u_in_lay hlt))
  unfold u_lay at hlay
  rw [if_pos hfin] at hlay
  have hst := (u_facts hfc hkC (u_lays hts hin hlt) hi).1
  have hcf : m.cls = cf := by
    obtain ⟨_, _, c', _, _, _, -, -, hf', -, -, -, hown2, -⟩ := Cond.laysFinal_spec hlay
    have e1 : c' = cf := by have := hi.symm.trans hf'; simp at this; exact this.1.symm
    rw [hdec] at hown2
    rw [← e1]; exact Option.some.inj (hown.symm.trans hown2)
  have h6 := u_fits hfc hkC hkind (Or.inr hlay) hi (hty j hlt) hn hfit
  refine W.putFinK hx hb hown (hts _ hlink) (by rw [← href]; exact hi) hst hcf hnm2 (by rw [q2]; exact h6) q1 q3 (by rw [hsl]; exact k2_hasslot (q4 j hlt)) rfl rfl hd fun H' e1 e2 e3 => ?_
  rw [hsl] at e1 ⊢
  refine k H' _ ls (by rw [e2]; exact hz) ⟨_, hc, t_OB.to (V := updV (vp_V fs) j (.ref x)) ⟨_, e1, q2, q3, t_set q4 hap hlt (.ref x)⟩ (fun i _ => vp_updV_set hfl _ i)⟩ (fun y hy => ⟨(hE y hy).1.kept (e3 _ (fun z => ?_)), (hE y hy).2⟩) (hS.put e2 e3 (by rw [hA]; exact Or.inl rfl)) hl
  have := (hE y hy).2
  have z : Θ.2.2.1 y.1 y.2 = a := z
  omega
theorem n_ret {rw0 : Nat → Nat} {K : jxM → Prop} {g0 : Nat} (X : jxOkN Γ Θ l cc own rm a) (hd : decode cc pc = .ok (.return_, 1)) (hK : K σ) (ha0 : Θ.2.2.1 g0 0 = a) (hfs : jxcon Θ (jxk g0) (σ g0 0) = .inr (ci, fs)) (hcov : ∀ g r, r < rw0 g → (g, r) = (g0, 0) ∨ (g, r) ∈ pr) : jxWn Γ Θ a ci (jxNQ Γ Θ rw0 K a n slots) slots n pc [] fs pr σ := by
  obtain ⟨p, l', e, R, s, m, args, below, meth, c, A⟩ := Γ
  obtain ⟨hx, hb, hml, hown, hts, hret, hlk, hnm2, hS0, hO, hA, ha, hR0, hl0⟩ := X
  subst hA
  intro H locs ls hz hP hE hS hl
  refine W.vret (Qc := jxNPost Θ rw0 K a s.heap.size n) (free := fun q => q = a ∨ s.heap.size ≤ q) hx hb hret (fun t ht hW => ⟨rfl, ⟨σ, hK, fun g r hgr => ?_⟩, by rw [ht]; exact hz, hS.F ht⟩) hS.2.2 hd hlk
  rw [ht]
  rcases hcov g r hgr with h | h
  · have e1 : g = g0 := congrArg Prod.fst h
    have e2 : r = 0 := congrArg Prod.snd h
    subst e1; subst e2
    show va_at Θ.1 jxCl (Θ.2.2.1 g 0, jxcon Θ (jxk g) (σ g 0)) H
    rw [ha0, hfs]
    exact hP
  · exact (hE (g, r) h).1
theorem jouter (cc : ClassId) (N h0 : Nat) (i : Nat) : Jvm.Free.Multi.outerC cc N h0 i = arrV cc N (fun j => if j < i then .ref (h0 + 1 + j) else .null) := by
  induction i with
  | zero =>
    show ({ cls := cc, slots := Array.replicate N .null, vm := .none } : Cell) = _
    rw [arrV_new]
    rfl
  | succ i ih =>
    show (Jvm.Free.Multi.outerC cc N h0 i).setSlot i (.ref (h0 + 1 + i)) = _
    rw [ih, arrV_store]
    refine congrArg (arrV cc N) (funext fun j => ?_)
    unfold updV
    by_cases e : j = i
    · subst e; simp
    · by_cases h : j < i
      · simp [e, h, Nat.lt_succ_of_lt h]
      · have : ¬ j < i + 1 := by omega
        simp [e, h, this]
theorem jarr_ext {cc : ClassId} {N : Nat} {f f' : Nat → Value} (h : ∀ j, j < N → f j = f' j) : arrV cc N f = arrV cc N f' := by
  unfold arrV
  congr 2
  funext j
  exact h j.val j.isLt
theorem n_mna (X : jxOkN Γ Θ l cc own rm a) {index g g' N M : Nat} {v w : Int32} (hd : decode cc pc = .ok (.multianewarray index 2, 4)) (hk : jxk g = .inr (.inr (g', N))) (hk' : jxk g' = .inr (.inl (0, M))) (w1 : Cond.classLink own index "[[I" ∈ jW) (w2 : Cond.arrayClass FieldType.int ∈ jW)
    (had : Θ.2.2.1 g 0 = jxSz Γ + n) (had' : ∀ i, i < N → Θ.2.2.1 g' i = jxSz Γ + n + 1 + i) (hσ : ∀ i, i < N → σ g' i = fun _ => 0) (hv : ¬ v < 0) (hw : ¬ w < 0) (hN : v.toNatClampNeg = N) (hM : w.toNatClampNeg = M) (hb1 : N * 4 ≤ 536870912) (hb2 : M * 4 ≤ 536870912) (hR : n + (1 + N) ≤ rm.cells ∧ slots + (N + N * M) ≤ rm.slots) (hq : pc + 4 = q) (k : jxWn Γ Θ a ci Q (slots + N + N * M) (n + 1 + N) q (.ref (Θ.2.2.1 g 0) :: st) fs ((g, 0) :: ((List.range N).map (fun r => (g', r)) ++ pr)) σ) : jxWn Γ Θ a ci Q slots n pc (.int w :: .int v :: st) fs pr σ := by
  subst hq; subst hN; subst hM
  obtain ⟨p, l', e, R, s, m, args, below, meth, c, A⟩ := Γ
  obtain ⟨hx, hb, hml, hown, hts, hret, hlk, hnm, hS0, hO, hA, ha, hR0, hl0⟩ := X
  subst hR0
  have had : Θ.2.2.1 g 0 = s.heap.size + n := had
  have had' : ∀ i, i < v.toNatClampNeg → Θ.2.2.1 g' i = s.heap.size + n + 1 + i := had'
  intro H locs ls hz hP hE hS hl T hT XT
  obtain ⟨vm₁, cA, comp, hW, fA, fC, hOO, -, X', step⟩ := XT.multianewarray2F hx hown (ty := .int) (hts _ w1) (hO.use args) (hts _ w2) (g := F0 m pc ls (.int w :: .int v :: st)) rfl (by rw [hb]; exact hd) rfl hv hw hb1 hb2 (by omega) rfl rfl hR.1 hR.2
  have e0 : comp = Θ.2.1 0 := Option.some.inj (fC.symm.trans (hS0.1.2 0 _ (rfl : (jxtys Θ.2.1)[0]? = some (Θ.2.1 0, .int))).2)
  have e2 : cA = Θ.2.1 2 := Option.some.inj (fA.symm.trans (hS0.1.2 2 _ (rfl : (jxtys Θ.2.1)[2]? = some (Θ.2.1 2, .array .int))).2)
  subst e0; subst e2
  have hTh : (T.setVm vm₁).heap = H := hT
  obtain ⟨f1, f2, -, -⟩ := Jvm.Free.Multi.fill_facts (T.setVm vm₁) (Θ.2.1 2) (Θ.2.1 0) v.toNatClampNeg w.toNatClampNeg (defaultValue .int) v.toNatClampNeg
  rw [hTh] at f1 f2
  have hold : ∀ x : Nat, x < H.size → (Jvm.Free.Multi.fill (T.setVm vm₁) (Θ.2.1 2) (Θ.2.1 0) v.toNatClampNeg w.toNatClampNeg (defaultValue .int) v.toNatClampNeg).heap[x]? = H[x]? := fun x hx => by
    have := Jvm.Free.Multi.fill_old (T.setVm vm₁) (Θ.2.1 2) (Θ.2.1 0) v.toNatClampNeg w.toNatClampNeg (defaultValue .int) (a := x) (by rw [hTh]; exact hx) v.toNatClampNeg
    rw [hTh] at this
    exact this
  have hrow : ∀ j : Nat, j < v.toNatClampNeg → (Jvm.Free.Multi.fill (T.setVm vm₁) (Θ.2.1 2) (Θ.2.1 0) v.toNatClampNeg w.toNatClampNeg (defaultValue .int) v.toNatClampNeg).heap[H.size + 1 + j]? = some (arrV (Θ.2.1 0) w.toNatClampNeg (fun _ => .int 0)) := fun j hj => by
    have := Jvm.Free.Multi.fill_inner (T.setVm vm₁) (Θ.2.1 2) (Θ.2.1 0) v.toNatClampNeg w.toNatClampNeg (defaultValue .int) v.toNatClampNeg j hj
    rw [hTh] at this
    rw [this, ← arrV_new]
    rfl
  generalize (Jvm.Free.Multi.fill (T.setVm vm₁) (Θ.2.1 2) (Θ.2.1 0) v.toNatClampNeg w.toNatClampNeg (defaultValue .int) v.toNatClampNeg) = F at X' step f1 f2 hold hrow
  have had2 : Θ.2.2.1 g 0 = H.size := by rw [had, hz]
  obtain ⟨t, a1, b1⟩ := k F.heap locs ls (by rw [f1, hz]; omega) (hP.kept (hold _ hP.lt)) (fun x hx => by
      rcases List.mem_cons.mp hx with rfl | hx
      · refine ⟨?_, by rw [had]; exact Nat.le_add_right _ _⟩
        show va_at Θ.1 jxCl (Θ.2.2.1 g 0, jxcon Θ (jxk g) (σ g 0)) F.heap
        rw [hk, had2]
        show F.heap[H.size]? = some (arrV (Θ.2.1 2) v.toNatClampNeg (fun j => va_rf (some (Θ.2.2.1 g' j))))
        rw [f2, jouter]
        refine congrArg some (jarr_ext fun j hj => ?_)
        rw [if_pos hj, had' j hj, ← hz]
        rfl
      · rcases List.mem_append.mp hx with hx | hx
        · obtain ⟨i, hi, rfl⟩ := List.mem_map.mp hx
          have hi : i < v.toNatClampNeg := List.mem_range.mp hi
          refine ⟨?_, by show _ ≤ Θ.2.2.1 g' i; rw [had' i hi]; omega⟩
          show va_at Θ.1 jxCl (Θ.2.2.1 g' i, jxcon Θ (jxk g') (σ g' i)) F.heap
          rw [hk', hσ i hi, had' i hi, ← hz]
          exact hrow i hi
        · exact ⟨(hE x hx).1.kept (hold _ (hE x hx).1.lt), (hE x hx).2⟩)
    ⟨Nat.le_trans hS.1 (by rw [f1]; omega), fun x h1 h2 => (hold x (Nat.lt_of_lt_of_le h1 hS.1)).trans (hS.2.1 x h1 h2), hS.2.2⟩ hl F rfl X'
  have hT2 : T.heap.size = Θ.2.2.1 g 0 := by rw [hT, had2]
  rw [← hT2] at a1
  exact ⟨t, step t a1, b1⟩
end JN
