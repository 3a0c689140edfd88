/-! The judgement of a walk over a world of fixed shape: cells are (group, row), one memory, one address function. -/
abbrev jxM : Type := Nat → Nat → Nat → Int32
abbrev jxV : Type := Int32 ⊕ (Nat × Nat)
/-- tables of the classes, array classes, addresses, which cells are there -/
abbrev jxT : Type := va_G × (Nat → ClassId) × (Nat → Nat → Nat) × (Nat → Nat → Prop)
abbrev jxG : Type := Program × Launch × Env × Room × State × MethodId × Array Value × List Frame × Method × Code × (Nat → Prop)
abbrev jxF : Type := Option jxV → jxM → Prop
def jxe (ad : Nat → Nat → Nat) (v : jxV) : Value := match v with
  | .inl x => .int x
  | .inr q => .ref (ad q.1 q.2)
theorem jxe_cat (ad : Nat → Nat → Nat) (v : jxV) : (jxe ad v).category = 1 := by cases v <;> rfl
def jxfs (ad : Nat → Nat → Nat) (f : Nat → Int32) (k : Nat) : List (Option Nat) → List Value
  | [] => []
  | none :: l => .int (f k) :: jxfs ad f (k + 1) l
  | some g :: l => .ref (ad g 0) :: jxfs ad f (k + 1) l
def jxcon (Θ : jxT) (k : jxK) (f : Nat → Int32) : va_E := match k with
  | .inl o => .inr (o.1, jxfs Θ.2.2.1 f 0 o.2)
  | .inr (.inl (3, n)) => .inl (Θ.2.1 3, n, .inr (.inl (fun i => (f i).toInt64)))
  | .inr (.inl a) => .inl (Θ.2.1 a.1, a.2, .inl f)
  | .inr (.inr a) => .inl (Θ.2.1 2, a.2, .inr (.inr (.inr (.inr (fun i => some (Θ.2.2.1 a.1 i))))))
theorem jxfs_len (ad : Nat → Nat → Nat) (f : Nat → Int32) (k : Nat) (l : List (Option Nat)) : (jxfs ad f k l).length = l.length := by
  induction l generalizing k with
  | nil => rfl
  | cons a l ih => cases a <;> simp [jxfs, ih]
theorem jxfs_int (ad : Nat → Nat → Nat) (f : Nat → Int32) (k j : Nat) (l : List (Option Nat)) (h : l[j]? = some none) : (jxfs ad f k l)[j]? = some (.int (f (k + j))) := by
  induction l generalizing k j with
  | nil => simp at h
  | cons a l ih =>
    cases j with
    | zero => simp at h; subst h; simp [jxfs]
    | succ j =>
      have h' : l[j]? = some none := by simpa using h
      have := ih (k + 1) j h'
      rw [show k + 1 + j = k + (j + 1) by omega] at this
      cases a <;> simpa [jxfs] using this
theorem jxfs_ref (ad : Nat → Nat → Nat) (f : Nat → Int32) (k j g : Nat) (l : List (Option Nat)) (h : l[j]? = some (some g)) : (jxfs ad f k l)[j]? = some (.ref (ad g 0)) := by
  induction l generalizing k j with
  | nil => simp at h
  | cons a l ih =>
    cases j with
    | zero => simp at h; subst h; simp [jxfs]
    | succ j =>
      have h' : l[j]? = some (some g) := by simpa using h
      have := ih (k + 1) j h'
      cases a <;> simpa [jxfs] using this
theorem jxfs_same (ad : Nat → Nat → Nat) (f f' : Nat → Int32) (k : Nat) (l : List (Option Nat)) (h : ∀ i, k ≤ i → f' i = f i) : jxfs ad f' k l = jxfs ad f k l := by
  induction l generalizing k with
  | nil => rfl
  | cons a l ih =>
    have := ih (k + 1) (fun i hi => h i (by omega))
    cases a <;> simp [jxfs, this, h k (Nat.le_refl _)]
theorem jxfs_set (ad : Nat → Nat → Nat) (f : Nat → Int32) (k j : Nat) (x : Int32) (l : List (Option Nat)) (h : l[j]? = some none) : (jxfs ad f k l).set j (.int x) = jxfs ad (upd f (k + j) x) k l := by
  induction l generalizing k j with
  | nil => simp at h
  | cons a l ih =>
    cases j with
    | zero =>
      simp at h; subst h
      simp only [jxfs, List.set_cons_zero, Nat.add_zero]
      rw [jxfs_same ad f (upd f k x) (k + 1) l (fun i hi => by unfold upd; rw [if_neg (by omega)])]
      simp [upd]
    | succ j =>
      have h' : l[j]? = some none := by simpa using h
      have := ih (k + 1) j h'
      rw [show k + 1 + j = k + (j + 1) by omega] at this
      have hk : upd f (k + (j + 1)) x k = f k := by unfold upd; rw [if_neg (by omega)]
      cases a <;> simp [jxfs, this, hk]
/-- the memory with one place changed -/
def jxs (σ : jxM) (g r j : Nat) (x : Int32) : jxM := fun g' r' => if g' = g ∧ r' = r then upd (σ g r) j x else σ g' r'
theorem jxs_row (σ : jxM) (g r j : Nat) (x : Int32) : jxs σ g r j x g r = upd (σ g r) j x := by simp [jxs]
theorem jxs_off (σ : jxM) (g r j : Nat) (x : Int32) {g' r' : Nat} (h : ¬ (g' = g ∧ r' = r)) : jxs σ g r j x g' r' = σ g' r' := by simp [jxs, h]
theorem jxs_at (σ : jxM) (g r j : Nat) (x : Int32) (g' r' j' : Nat) : jxs σ g r j x g' r' j' = if g' = g ∧ r' = r ∧ j' = j then x else σ g' r' j' := by
  unfold jxs upd
  by_cases h : g' = g ∧ r' = r
  · obtain ⟨rfl, rfl⟩ := h
    by_cases h2 : j' = j <;> simp [h2]
  · rw [if_neg h, if_neg (fun q => h ⟨q.1, q.2.1⟩)]
def jxP (Θ : jxT) (σ : jxM) (H : Heap) : Prop := ∀ g r, Θ.2.2.2 g r → va_at Θ.1 jxCl (Θ.2.2.1 g r, jxcon Θ (jxk g) (σ g r)) H
def jxI (Θ : jxT) : Prop := ∀ g r g' r', Θ.2.2.2 g r → Θ.2.2.2 g' r' → Θ.2.2.1 g r = Θ.2.2.1 g' r' → g = g' ∧ r = r'
def jxA (Θ : jxT) (sz : Nat) : Nat → Prop := fun q => (∃ g r, Θ.2.2.2 g r ∧ q = Θ.2.2.1 g r) ∨ sz ≤ q
def jxtys (cA : Nat → ClassId) : List (ClassId × FieldType) := [(cA 0, .int), (cA 1, .boolean), (cA 2, .array .int), (cA 3, .long)]
def jxS (Θ : jxT) (U : State) : Prop := va_K Θ.1 jxCl (jxtys Θ.2.1) U ∧ ∀ w ∈ jxnst, va_Nw w U
theorem jxnst_warm {s U : State} (hW : s.WarmedH U.vm) {w : Cond} (hw : w ∈ jxnst) (h : va_Nw w s) : va_Nw w U := by
  rcases jxnst_kind w hw with ⟨a, i, x, k, rfl⟩ | ⟨a, i, b, n, d, k, rfl⟩
  · exact va_Nw.warmM hW h
  · exact va_Nw.warmF hW h
theorem jxnst_same {s U : State} (hv : s.vm = U.vm) {w : Cond} (hw : w ∈ jxnst) (h : va_Nw w s) : va_Nw w U := by
  rcases jxnst_kind w hw with ⟨a, i, x, k, rfl⟩ | ⟨a, i, b, n, d, k, rfl⟩
  · exact va_Nw.same rfl hv h
  · exact va_Nw.same rfl hv h
theorem jxS.warm {Θ : jxT} {s U : State} (hW : s.WarmedH U.vm) (h : jxS Θ s) : jxS Θ U := ⟨va_K.moved hW.alike h.1, fun w hw => jxnst_warm hW hw (h.2 w hw)⟩
/-- a store into a cell: what else is there stays -/
theorem jxP.set {Θ : jxT} {σ : jxM} {H H1 : Heap} {g r j : Nat} {x : Int32} (h : jxP Θ σ H) (hI : jxI Θ) (hp : Θ.2.2.2 g r) (he : va_at Θ.1 jxCl (Θ.2.2.1 g r, jxcon Θ (jxk g) (upd (σ g r) j x)) H1) (oq : ∀ q : Nat, q ≠ Θ.2.2.1 g r → H1[q]? = H[q]?) : jxP Θ (jxs σ g r j x) H1 := by
  intro g' r' hp'
  by_cases hq : g' = g ∧ r' = r
  · obtain ⟨rfl, rfl⟩ := hq
    rw [jxs_row]
    exact he
  · rw [jxs_off _ _ _ _ _ hq]
    exact (h g' r' hp').kept (oq _ (fun z => hq (hI g' r' g r hp' hp z)))
def jxL (ad : Nat → Nat → Nat) (ls : Array Slot) (L : List (Option jxV)) : Prop := ls.size = L.length ∧ lv_wf ls ∧ ∀ (i : Nat) (v : jxV), L[i]? = some (some v) → ls[i]? = some (.val (jxe ad v))
def jxpr (ad : Nat → Nat → Nat) (k : Nat) : List (Option jxV) → List (Nat × Value)
  | [] => []
  | none :: l => jxpr ad (k + 1) l
  | some v :: l => (k, jxe ad v) :: jxpr ad (k + 1) l
theorem jxpr_mem (ad : Nat → Nat → Nat) (k : Nat) (l : List (Option jxV)) (q : Nat × Value) : q ∈ jxpr ad k l ↔ ∃ i v, l[i]? = some (some v) ∧ q = (k + i, jxe ad v) := by
  induction l generalizing k with
  | nil => simp [jxpr]
  | cons a l ih =>
    cases a with
    | none =>
      rw [jxpr, ih]
      constructor
      · rintro ⟨i, v, h, rfl⟩
        exact ⟨i + 1, v, by simpa using h, by rw [show k + 1 + i = k + (i + 1) by omega]⟩
      · rintro ⟨i, v, h, rfl⟩
        cases i with
        | zero => simp at h
        | succ i => exact ⟨i, v, by simpa using h, by rw [show k + 1 + i = k + (i + 1) by omega]⟩
    | some w =>
      rw [jxpr, List.mem_cons, ih]
      constructor
      · rintro (rfl | ⟨i, v, h, rfl⟩)
        · exact ⟨0, w, by simp, by simp⟩
        · exact ⟨i + 1, v, by simpa using h, by rw [show k + 1 + i = k + (i + 1) by omega]⟩
      · rintro ⟨i, v, h, rfl⟩
        cases i with
        | zero => simp at h; subst h; exact Or.inl (by simp)
        | succ i => exact Or.inr ⟨i, v, by simpa using h, by rw [show k + 1 + i = k + (i + 1) by omega]⟩
theorem jxL.has {ad : Nat → Nat → Nat} {ls : Array Slot} {L : List (Option jxV)} (h : jxL ad ls L) : lv_has ls L.length (jxpr ad 0 L) := by
  refine ⟨h.1, h.2.1, fun q hq => ?_⟩
  obtain ⟨i, v, h1, rfl⟩ := (jxpr_mem ad 0 L q).mp hq
  simpa using h.2.2 i v h1
theorem jxL.put {ad : Nat → Nat → Nat} {ls' : Array Slot} {L : List (Option jxV)} {i : Nat} {v : jxV} (h : lv_has ls' L.length ((i, jxe ad v) :: (jxpr ad 0 L).filter (fun q => !(q.1 == i) && !(q.1 + 1 == i && q.2.category == 2)))) : jxL ad ls' (L.set i (some v)) := by
  refine ⟨by rw [List.length_set]; exact h.1, h.2.1, fun k w hk => ?_⟩
  by_cases hki : i = k
  · subst hki
    have hlt : i < L.length := by
      have := (List.getElem?_eq_some_iff.mp hk).1
      simpa using this
    rw [List.getElem?_set_self hlt] at hk
    cases hk
    exact h.2.2 _ List.mem_cons_self
  · rw [List.getElem?_set_ne hki] at hk
    refine h.2.2 (k, jxe ad w) (List.mem_cons_of_mem _ (List.mem_filter.mpr ⟨(jxpr_mem ad 0 L _).mpr ⟨k, w, hk, by simp⟩, ?_⟩))
    have hc : ((jxe ad w).category == 2) = false := by rw [jxe_cat]; rfl
    have hk' : (k == i) = false := by simpa using fun q : k = i => hki q.symm
    simp [hk', hc]
theorem jxargs (ad : Nat → Nat → Nat) (k : Nat) (as : List jxV) : lv_args k (as.map (jxe ad)) = jxpr ad k (as.map some) := by
  induction as generalizing k with
  | nil => rfl
  | cons a as ih =>
    simp only [List.map_cons, lv_args, jxpr]
    rw [if_neg (by rw [jxe_cat]; decide), ih]
theorem jxsl (ad : Nat → Nat → Nat) (as : List jxV) : (lg_sl (as.map (jxe ad))).length = as.length := by
  induction as with
  | nil => rfl
  | cons a as ih =>
    simp only [lg_sl, List.map_cons, List.flatMap_cons] at ih ⊢
    rw [if_neg (by rw [jxe_cat]; decide)]
    simp [ih]
theorem jxL.entry (ad : Nat → Nat → Nat) (as : List jxV) {n : Nat} (h : as.length ≤ n) : jxL ad ((lg_sl (as.map (jxe ad)) ++ List.replicate (n - (lg_sl (as.map (jxe ad))).length) Slot.unset).toArray) (as.map some ++ List.replicate (n - as.length) none) := by
  have h0 := lv_entry (as.map (jxe ad)) (n := n) (by rw [jxsl]; exact h)
  refine ⟨by rw [h0.1]; simp; omega, h0.2.1, fun i v hi => ?_⟩
  rw [jxargs] at h0
  by_cases hl : i < (as.map some).length
  · rw [List.getElem?_append_left hl] at hi
    exact h0.2.2 (i, jxe ad v) ((jxpr_mem ad 0 _ _).mpr ⟨i, v, hi, by simp⟩)
  · rw [List.getElem?_append_right (by omega)] at hi
    have := List.eq_of_mem_replicate (List.mem_of_getElem? hi)
    cases this
def jxQ (Θ : jxT) (Φ : jxF) (A : Nat → Prop) : Array Value → State → Outcome → State → Prop := fun _ st oc t => (∃ (r : Option jxV) (σ : jxM), oc = .returned (r.map (jxe Θ.2.2.1)) ∧ Φ r σ ∧ jxP Θ σ t.heap) ∧ va_F A st t
/-- the walk: from every heap that holds σ the machine at pc comes to a return that Φ allows -/
def jxW (Γ : jxG) (Θ : jxT) (Φ : jxF) (pc : Nat) (L : List (Option jxV)) (st : List jxV) (σ : jxM) : Prop := match Γ with
  | (p, l, e, R, s, m, args, below, meth, c, A) => ∀ (H : Heap) (locs : List Loc) (ls : Array Slot), jxP Θ σ H → va_S A s.heap H locs → jxL Θ.2.2.1 ls L → W p l e R s m args below meth c H locs 0 0 (MQ below (jxQ Θ Φ A) args s 0 0 A) (F0 m pc ls (st.map (jxe Θ.2.2.1)))
/-- what a method's walk may use -/
def jxOk (Γ : jxG) (Θ : jxT) (l0 : Launch) (cc : ByteArray) (nL : Nat) (own : String) (ret : Option FieldType) (rm : Room) : Prop := match Γ with
  | (p, l, e, R, s, m, args, below, meth, c, A) => p.tables.exec = Jvm.exec ∧ c.code = cc ∧ c.maxLocals = nL ∧ s.vm.findClass own = some m.cls ∧ (∀ w ∈ jW, w.before args s = true) ∧ meth.sig.returnType = ret ∧ meth.locks = false ∧ jxS Θ s ∧ jxI Θ ∧ (∀ g r, Θ.2.2.2 g r → A (Θ.2.2.1 g r)) ∧ (∀ q, s.heap.size ≤ q → A q) ∧ R = rm ∧ l = l0
def jxPre (Θ : jxT) (as : List jxV) (σ : jxM) (sz : Nat) : Array Value → State → Prop := va_Pc (as.map (jxe Θ.2.2.1)) (fun U => U.heap.size = sz ∧ jxP Θ σ U.heap ∧ jxS Θ U)
def jxMet (l : Launch) (y : MethodName) (cc : ByteArray) (maxL : Nat) (ret : Option FieldType) (rm : Room) (Θ : jxT) (as : List jxV) (σ : jxM) (Φ : jxF) : Prop := ∀ sz, Met l y (Cond.code y cc maxL ret :: jW) rm (jxPre Θ as σ sz) (jxQ Θ Φ (jxA Θ sz)) 0 0 (jxA Θ sz)
theorem jxPre.blind {Θ : jxT} {as : List jxV} {σ : jxM} {sz : Nat} : FrameBlind (jxPre Θ as σ sz) := fun a U g mk q => ⟨q.1, q.2.1, q.2.2.1, va_K.moved (u := U) (U := U.calling g mk a) (Vm.Alike.refl U.vm) q.2.2.2.1, fun w hw => jxnst_same (s := U) (U := U.calling g mk a) rfl hw (q.2.2.2.2 w hw)⟩
theorem jxMet.of {l : Launch} {y : MethodName} {rm : Room} {Θ : jxT} {as : List jxV} {σ : jxM} {Φ : jxF} {cc : ByteArray} {maxL : Nat} {ret : Option FieldType} {own : String} (hI : jxI Θ) (hy : plainName y.cls = true) (ho : y.cls = own) (hlen : as.length ≤ maxL)
    (body : ∀ Γ : jxG, jxOk Γ Θ l cc maxL own ret rm → jxW Γ Θ Φ 0 (as.map some ++ List.replicate (maxL - as.length) none) [] σ) : jxMet l y cc maxL ret rm Θ as σ Φ := by
  intro sz
  subst ho
  refine Met.ofW hy rfl ?_
  intro p e s m args below meth c s₁ B hml hv
  obtain ⟨rfl, hsz, hP, hS⟩ := hv
  subst hsz
  rw [lg_entry_eq]
  exact body (p, l, e, (headSpec (Cond.code y cc maxL ret :: jW) rm).room, s, m, (as.map (jxe Θ.2.2.1)).toArray, below, meth, c, jxA Θ s.heap.size) ⟨B.exec, B.bytes, hml, findClass_of_methodNamed B.named, fun w hw => atoms_spec (ws := Cond.code y cc maxL ret :: jW) B.pre w (List.mem_cons_of_mem _ hw), B.returns, B.notSynchronized, hS, hI, fun g r h => Or.inl ⟨g, r, h, rfl⟩, fun q h => Or.inr h, rfl, rfl⟩ s.heap [] _ hP va_S.rf (jxL.entry Θ.2.2.1 as hlen)
theorem jxMet.weaken {l : Launch} {y : MethodName} {cc : ByteArray} {maxL : Nat} {ret : Option FieldType} {rm : Room} {Θ : jxT} {as : List jxV} {σ : jxM} {Φ Ψ : jxF} (h : jxMet l y cc maxL ret rm Θ as σ Φ) (hi : ∀ r σ', Φ r σ' → Ψ r σ') : jxMet l y cc maxL ret rm Θ as σ Ψ := by
  intro sz p e ha hc hk s m args below hf happ hP hK
  obtain ⟨n, o, h1, h2, h3, ⟨⟨r, σ', h4, h5, h6⟩, h7⟩, h8⟩ := h sz p e ha hc hk s m args below hf happ hP hK
  exact ⟨n, o, h1, h2, h3, ⟨⟨r, σ', h4, hi _ _ h5, h6⟩, h7⟩, h8⟩
