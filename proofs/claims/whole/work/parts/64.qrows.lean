/-! The same rows for a walk that ends as one likes, some cells made already: for throws, for the law and its helpers. -/
abbrev jxQc : Type := (State → Prop) × Nat × Nat
def jxWq (Γ : jxG) (Θ : jxT) (Φ : jxQc) (pc : Nat) (L : List (Option jxV)) (st : List jxV) (σ : jxM) : Prop := match Γ with
  | (p, l, e, R, s, m, args, below, meth, c, A) => ∀ (H : Heap) (locs : List Loc) (ls : Array Slot), jxP Θ σ H → va_S A s.heap H locs → jxL Θ.2.2.1 ls L → W p l e R s m args below meth c H locs Φ.2.1 Φ.2.2 Φ.1 (F0 m pc ls (st.map (jxe Θ.2.2.1)))
section JR
variable {Γ : jxG} {Θ : jxT} {Φ : jxQc} {l : Launch} {cc : ByteArray} {nL : Nat} {own : String} {ret : Option FieldType} {rm : Room} {pc q : Nat} {L : List (Option jxV)} {st : List jxV} {σ : jxM}
theorem q_iconst (X : jxOk Γ Θ l cc nL own ret rm) {n : Int} {v : Int32} (hd : decode cc pc = .ok (.iconst n, 1)) (hv : Int32.ofInt n = v) (hq : pc + 1 = q)
    (k : jxWq Γ Θ Φ q L (.inl v :: st) σ) : jxWq Γ Θ Φ pc L st σ := by
  subst hq
  obtain ⟨p, l', e, R, s, m, args, below, meth, c, A⟩ := Γ
  obtain ⟨hx, hb, hml, hown, hts, hret, hlk, hS0, hI, hA1, hA2, hR0, hl0⟩ := X
  intro H locs ls hP hS hl
  exact lv_iconst hx hb hd hv (k H locs ls hP hS hl)
theorem q_bipush (X : jxOk Γ Θ l cc nL own ret rm) {n : Int} {v : Int32} (hd : decode cc pc = .ok (.bipush n, 2)) (hv : (Int8.ofInt n).toInt32 = v) (hq : pc + 2 = q)
    (k : jxWq Γ Θ Φ q L (.inl v :: st) σ) : jxWq Γ Θ Φ pc L st σ := by
  subst hq
  obtain ⟨p, l', e, R, s, m, args, below, meth, c, A⟩ := Γ
  obtain ⟨hx, hb, hml, hown, hts, hret, hlk, hS0, hI, hA1, hA2, hR0, hl0⟩ := X
  intro H locs ls hP hS hl
  exact lv_bipush hx hb hd hv (k H locs ls hP hS hl)
theorem q_sipush (X : jxOk Γ Θ l cc nL own ret rm) {n : Int} {v : Int32} (hd : decode cc pc = .ok (.sipush n, 3)) (hv : (Int16.ofInt n).toInt32 = v) (hq : pc + 3 = q)
    (k : jxWq Γ Θ Φ q L (.inl v :: st) σ) : jxWq Γ Θ Φ pc L st σ := by
  subst hq
  obtain ⟨p, l', e, R, s, m, args, below, meth, c, A⟩ := Γ
  obtain ⟨hx, hb, hml, hown, hts, hret, hlk, hS0, hI, hA1, hA2, hR0, hl0⟩ := X
  intro H locs ls hP hS hl
  exact lv_sipush hx hb hd hv (k H locs ls hP hS hl)
theorem q_iload_n (X : jxOk Γ Θ l cc nL own ret rm) {i : Fin 4} {x : Int32} (hd : decode cc pc = .ok (.iload_n i, 1)) (h : L[(i : Nat)]? = some (some (.inl x))) (hq : pc + 1 = q)
    (k : jxWq Γ Θ Φ q L (.inl x :: st) σ) : jxWq Γ Θ Φ pc L st σ := by
  subst hq
  obtain ⟨p, l', e, R, s, m, args, below, meth, c, A⟩ := Γ
  obtain ⟨hx, hb, hml, hown, hts, hret, hlk, hS0, hI, hA1, hA2, hR0, hl0⟩ := X
  intro H locs ls hP hS hl
  exact lv_iload_n hx hb hd rfl (hl.2.2 _ _ h) (k H locs ls hP hS hl)
theorem q_iload (X : jxOk Γ Θ l cc nL own ret rm) {i : Nat} {x : Int32} (hd : decode cc pc = .ok (.iload i, 2)) (h : L[i]? = some (some (.inl x))) (hq : pc + 2 = q)
    (k : jxWq Γ Θ Φ q L (.inl x :: st) σ) : jxWq Γ Θ Φ pc L st σ := by
  subst hq
  obtain ⟨p, l', e, R, s, m, args, below, meth, c, A⟩ := Γ
  obtain ⟨hx, hb, hml, hown, hts, hret, hlk, hS0, hI, hA1, hA2, hR0, hl0⟩ := X
  intro H locs ls hP hS hl
  exact lv_iload hx hb hd (hl.2.2 _ _ h) (k H locs ls hP hS hl)
theorem q_aload_n (X : jxOk Γ Θ l cc nL own ret rm) {i : Fin 4} {x : Nat × Nat} (hd : decode cc pc = .ok (.aload_n i, 1)) (h : L[(i : Nat)]? = some (some (.inr x))) (hq : pc + 1 = q)
    (k : jxWq Γ Θ Φ q L (.inr x :: st) σ) : jxWq Γ Θ Φ pc L st σ := by
  subst hq
  obtain ⟨p, l', e, R, s, m, args, below, meth, c, A⟩ := Γ
  obtain ⟨hx, hb, hml, hown, hts, hret, hlk, hS0, hI, hA1, hA2, hR0, hl0⟩ := X
  intro H locs ls hP hS hl
  exact lv_aload_n hx hb hd rfl (hl.2.2 _ _ h) (k H locs ls hP hS hl)
theorem q_aload (X : jxOk Γ Θ l cc nL own ret rm) {i : Nat} {x : Nat × Nat} (hd : decode cc pc = .ok (.aload i, 2)) (h : L[i]? = some (some (.inr x))) (hq : pc + 2 = q)
    (k : jxWq Γ Θ Φ q L (.inr x :: st) σ) : jxWq Γ Θ Φ pc L st σ := by
  subst hq
  obtain ⟨p, l', e, R, s, m, args, below, meth, c, A⟩ := Γ
  obtain ⟨hx, hb, hml, hown, hts, hret, hlk, hS0, hI, hA1, hA2, hR0, hl0⟩ := X
  intro H locs ls hP hS hl
  exact lv_aload hx hb hd (hl.2.2 _ _ h) (k H locs ls hP hS hl)
theorem q_istore_n (X : jxOk Γ Θ l cc nL own ret rm) {i : Fin 4} {j : Nat} {x : Int32} (hd : decode cc pc = .ok (.istore_n i, 1)) (hij : (i : Nat) = j) (hi : j < L.length) (hq : pc + 1 = q)
    (k : jxWq Γ Θ Φ q (L.set j (some (.inl x))) st σ) : jxWq Γ Θ Φ pc L (.inl x :: st) σ := by
  subst hq
  obtain ⟨p, l', e, R, s, m, args, below, meth, c, A⟩ := Γ
  obtain ⟨hx, hb, hml, hown, hts, hret, hlk, hS0, hI, hA1, hA2, hR0, hl0⟩ := X
  intro H locs ls hP hS hl
  exact lv_istore_n hx hb hd hij hl.has hi rfl (fun ls' h' => k H locs ls' hP hS (jxL.put h'))
theorem q_istore (X : jxOk Γ Θ l cc nL own ret rm) {i : Nat} {x : Int32} (hd : decode cc pc = .ok (.istore i, 2)) (hi : i < L.length) (hq : pc + 2 = q)
    (k : jxWq Γ Θ Φ q (L.set i (some (.inl x))) st σ) : jxWq Γ Θ Φ pc L (.inl x :: st) σ := by
  subst hq
  obtain ⟨p, l', e, R, s, m, args, below, meth, c, A⟩ := Γ
  obtain ⟨hx, hb, hml, hown, hts, hret, hlk, hS0, hI, hA1, hA2, hR0, hl0⟩ := X
  intro H locs ls hP hS hl
  exact lv_istore hx hb hd hl.has hi rfl (fun ls' h' => k H locs ls' hP hS (jxL.put h'))
theorem q_astore_n (X : jxOk Γ Θ l cc nL own ret rm) {i : Fin 4} {j : Nat} {x : Nat × Nat} (hd : decode cc pc = .ok (.astore_n i, 1)) (hij : (i : Nat) = j) (hi : j < L.length) (hq : pc + 1 = q)
    (k : jxWq Γ Θ Φ q (L.set j (some (.inr x))) st σ) : jxWq Γ Θ Φ pc L (.inr x :: st) σ := by
  subst hq
  obtain ⟨p, l', e, R, s, m, args, below, meth, c, A⟩ := Γ
  obtain ⟨hx, hb, hml, hown, hts, hret, hlk, hS0, hI, hA1, hA2, hR0, hl0⟩ := X
  intro H locs ls hP hS hl
  exact lv_astore_n hx hb hd hij hl.has hi rfl (fun ls' h' => k H locs ls' hP hS (jxL.put h'))
theorem q_astore (X : jxOk Γ Θ l cc nL own ret rm) {i : Nat} {x : Nat × Nat} (hd : decode cc pc = .ok (.astore i, 2)) (hi : i < L.length) (hq : pc + 2 = q)
    (k : jxWq Γ Θ Φ q (L.set i (some (.inr x))) st σ) : jxWq Γ Θ Φ pc L (.inr x :: st) σ := by
  subst hq
  obtain ⟨p, l', e, R, s, m, args, below, meth, c, A⟩ := Γ
  obtain ⟨hx, hb, hml, hown, hts, hret, hlk, hS0, hI, hA1, hA2, hR0, hl0⟩ := X
  intro H locs ls hP hS hl
  exact lv_astore hx hb hd hl.has hi rfl (fun ls' h' => k H locs ls' hP hS (jxL.put h'))
theorem q_iinc (X : jxOk Γ Θ l cc nL own ret rm) {i : Nat} {n : Int} {x v : Int32} (hd : decode cc pc = .ok (.iinc i n, 3)) (h : L[i]? = some (some (.inl x))) (hv : x + Int32.ofInt n = v) (hq : pc + 3 = q)
    (k : jxWq Γ Θ Φ q (L.set i (some (.inl v))) st σ) : jxWq Γ Θ Φ pc L st σ := by
  subst hq
  obtain ⟨p, l', e, R, s, m, args, below, meth, c, A⟩ := Γ
  obtain ⟨hx, hb, hml, hown, hts, hret, hlk, hS0, hI, hA1, hA2, hR0, hl0⟩ := X
  intro H locs ls hP hS hl
  obtain ⟨kk, hkk⟩ := List.getElem?_of_mem ((jxpr_mem Θ.2.2.1 0 L (i, Value.int x)).mpr ⟨i, .inl x, h, by simp [jxe]⟩)
  exact lv_iinc hx hb hd hl.has hkk hv (List.getElem?_eq_some_iff.mp h).1 rfl (fun ls' h' => k H locs ls' hP hS (jxL.put h'))
theorem q_iadd (X : jxOk Γ Θ l cc nL own ret rm) {x y : Int32} (hd : decode cc pc = .ok (.iadd, 1))  (hq : pc + 1 = q)
    (k : jxWq Γ Θ Φ q L (.inl (x + y) :: st) σ) : jxWq Γ Θ Φ pc L (.inl y :: .inl x :: st) σ := by
  subst hq
  obtain ⟨p, l', e, R, s, m, args, below, meth, c, A⟩ := Γ
  obtain ⟨hx, hb, hml, hown, hts, hret, hlk, hS0, hI, hA1, hA2, hR0, hl0⟩ := X
  intro H locs ls hP hS hl
  exact lv_iadd hx hb hd (k H locs ls hP hS hl)
theorem q_isub (X : jxOk Γ Θ l cc nL own ret rm) {x y : Int32} (hd : decode cc pc = .ok (.isub, 1))  (hq : pc + 1 = q)
    (k : jxWq Γ Θ Φ q L (.inl (x - y) :: st) σ) : jxWq Γ Θ Φ pc L (.inl y :: .inl x :: st) σ := by
  subst hq
  obtain ⟨p, l', e, R, s, m, args, below, meth, c, A⟩ := Γ
  obtain ⟨hx, hb, hml, hown, hts, hret, hlk, hS0, hI, hA1, hA2, hR0, hl0⟩ := X
  intro H locs ls hP hS hl
  exact lv_isub hx hb hd (k H locs ls hP hS hl)
theorem q_imul (X : jxOk Γ Θ l cc nL own ret rm) {x y : Int32} (hd : decode cc pc = .ok (.imul, 1))  (hq : pc + 1 = q)
    (k : jxWq Γ Θ Φ q L (.inl (x * y) :: st) σ) : jxWq Γ Θ Φ pc L (.inl y :: .inl x :: st) σ := by
  subst hq
  obtain ⟨p, l', e, R, s, m, args, below, meth, c, A⟩ := Γ
  obtain ⟨hx, hb, hml, hown, hts, hret, hlk, hS0, hI, hA1, hA2, hR0, hl0⟩ := X
  intro H locs ls hP hS hl
  exact lv_imul hx hb hd (k H locs ls hP hS hl)
theorem q_iand (X : jxOk Γ Θ l cc nL own ret rm) {x y : Int32} (hd : decode cc pc = .ok (.iand, 1))  (hq : pc + 1 = q)
    (k : jxWq Γ Θ Φ q L (.inl (x &&& y) :: st) σ) : jxWq Γ Θ Φ pc L (.inl y :: .inl x :: st) σ := by
  subst hq
  obtain ⟨p, l', e, R, s, m, args, below, meth, c, A⟩ := Γ
  obtain ⟨hx, hb, hml, hown, hts, hret, hlk, hS0, hI, hA1, hA2, hR0, hl0⟩ := X
  intro H locs ls hP hS hl
  exact lv_iand hx hb hd (k H locs ls hP hS hl)
theorem q_ior (X : jxOk Γ Θ l cc nL own ret rm) {x y : Int32} (hd : decode cc pc = .ok (.ior, 1))  (hq : pc + 1 = q)
    (k : jxWq Γ Θ Φ q L (.inl (x ||| y) :: st) σ) : jxWq Γ Θ Φ pc L (.inl y :: .inl x :: st) σ := by
  subst hq
  obtain ⟨p, l', e, R, s, m, args, below, meth, c, A⟩ := Γ
  obtain ⟨hx, hb, hml, hown, hts, hret, hlk, hS0, hI, hA1, hA2, hR0, hl0⟩ := X
  intro H locs ls hP hS hl
  exact lv_ior hx hb hd (k H locs ls hP hS hl)
theorem q_ixor (X : jxOk Γ Θ l cc nL own ret rm) {x y : Int32} (hd : decode cc pc = .ok (.ixor, 1))  (hq : pc + 1 = q)
    (k : jxWq Γ Θ Φ q L (.inl (x ^^^ y) :: st) σ) : jxWq Γ Θ Φ pc L (.inl y :: .inl x :: st) σ := by
  subst hq
  obtain ⟨p, l', e, R, s, m, args, below, meth, c, A⟩ := Γ
  obtain ⟨hx, hb, hml, hown, hts, hret, hlk, hS0, hI, hA1, hA2, hR0, hl0⟩ := X
  intro H locs ls hP hS hl
  exact lv_ixor hx hb hd (k H locs ls hP hS hl)
theorem q_ishl (X : jxOk Γ Θ l cc nL own ret rm) {x y : Int32} (hd : decode cc pc = .ok (.ishl, 1))  (hq : pc + 1 = q)
    (k : jxWq Γ Θ Φ q L (.inl (x <<< (y &&& 31)) :: st) σ) : jxWq Γ Θ Φ pc L (.inl y :: .inl x :: st) σ := by
  subst hq
  obtain ⟨p, l', e, R, s, m, args, below, meth, c, A⟩ := Γ
  obtain ⟨hx, hb, hml, hown, hts, hret, hlk, hS0, hI, hA1, hA2, hR0, hl0⟩ := X
  intro H locs ls hP hS hl
  exact lv_ishl hx hb hd (k H locs ls hP hS hl)
theorem q_ishr (X : jxOk Γ Θ l cc nL own ret rm) {x y : Int32} (hd : decode cc pc = .ok (.ishr, 1))  (hq : pc + 1 = q)
    (k : jxWq Γ Θ Φ q L (.inl (x >>> (y &&& 31)) :: st) σ) : jxWq Γ Θ Φ pc L (.inl y :: .inl x :: st) σ := by
  subst hq
  obtain ⟨p, l', e, R, s, m, args, below, meth, c, A⟩ := Γ
  obtain ⟨hx, hb, hml, hown, hts, hret, hlk, hS0, hI, hA1, hA2, hR0, hl0⟩ := X
  intro H locs ls hP hS hl
  exact lv_ishr hx hb hd (k H locs ls hP hS hl)
theorem q_iushr (X : jxOk Γ Θ l cc nL own ret rm) {x y v : Int32} (hd : decode cc pc = .ok (.iushr, 1)) (hv : (x.toUInt32 >>> (y.toUInt32 &&& Int32.toUInt32 31)).toInt32 = v) (hq : pc + 1 = q)
    (k : jxWq Γ Θ Φ q L (.inl v :: st) σ) : jxWq Γ Θ Φ pc L (.inl y :: .inl x :: st) σ := by
  subst hq
  obtain ⟨p, l', e, R, s, m, args, below, meth, c, A⟩ := Γ
  obtain ⟨hx, hb, hml, hown, hts, hret, hlk, hS0, hI, hA1, hA2, hR0, hl0⟩ := X
  intro H locs ls hP hS hl
  exact lv_iushr hx hb hd hv (k H locs ls hP hS hl)
theorem q_irem (X : jxOk Γ Θ l cc nL own ret rm) {x y : Int32} (hd : decode cc pc = .ok (.irem, 1)) (hne : ¬ y = 0) (hq : pc + 1 = q)
    (k : jxWq Γ Θ Φ q L (.inl (x - x / y * y) :: st) σ) : jxWq Γ Θ Φ pc L (.inl y :: .inl x :: st) σ := by
  subst hq
  obtain ⟨p, l', e, R, s, m, args, below, meth, c, A⟩ := Γ
  obtain ⟨hx, hb, hml, hown, hts, hret, hlk, hS0, hI, hA1, hA2, hR0, hl0⟩ := X
  intro H locs ls hP hS hl
  exact lv_irem hx hb hd hne (k H locs ls hP hS hl)
theorem q_dup (X : jxOk Γ Θ l cc nL own ret rm) {a : jxV} (hd : decode cc pc = .ok (.dup, 1))  (hq : pc + 1 = q)
    (k : jxWq Γ Θ Φ q L (a :: a :: st) σ) : jxWq Γ Θ Φ pc L (a :: st) σ := by
  subst hq
  obtain ⟨p, l', e, R, s, m, args, below, meth, c, A⟩ := Γ
  obtain ⟨hx, hb, hml, hown, hts, hret, hlk, hS0, hI, hA1, hA2, hR0, hl0⟩ := X
  intro H locs ls hP hS hl
  exact lv_dup hx hb hd (jxe_cat _ a) (k H locs ls hP hS hl)
theorem q_pop (X : jxOk Γ Θ l cc nL own ret rm) {a : jxV} (hd : decode cc pc = .ok (.pop, 1))  (hq : pc + 1 = q)
    (k : jxWq Γ Θ Φ q L st σ) : jxWq Γ Θ Φ pc L (a :: st) σ := by
  subst hq
  obtain ⟨p, l', e, R, s, m, args, below, meth, c, A⟩ := Γ
  obtain ⟨hx, hb, hml, hown, hts, hret, hlk, hS0, hI, hA1, hA2, hR0, hl0⟩ := X
  intro H locs ls hP hS hl
  exact lv_pop hx hb hd (jxe_cat _ a) (k H locs ls hP hS hl)
theorem q_dup_x1 (X : jxOk Γ Θ l cc nL own ret rm) {a b : jxV} (hd : decode cc pc = .ok (.dup_x1, 1))  (hq : pc + 1 = q)
    (k : jxWq Γ Θ Φ q L (a :: b :: a :: st) σ) : jxWq Γ Θ Φ pc L (a :: b :: st) σ := by
  subst hq
  obtain ⟨p, l', e, R, s, m, args, below, meth, c, A⟩ := Γ
  obtain ⟨hx, hb, hml, hown, hts, hret, hlk, hS0, hI, hA1, hA2, hR0, hl0⟩ := X
  intro H locs ls hP hS hl
  exact lv_dup_x1 hx hb hd (jxe_cat _ a) (jxe_cat _ b) (k H locs ls hP hS hl)
theorem q_dup_x2 (X : jxOk Γ Θ l cc nL own ret rm) {a b d : jxV} (hd : decode cc pc = .ok (.dup_x2, 1))  (hq : pc + 1 = q)
    (k : jxWq Γ Θ Φ q L (a :: b :: d :: a :: st) σ) : jxWq Γ Θ Φ pc L (a :: b :: d :: st) σ := by
  subst hq
  obtain ⟨p, l', e, R, s, m, args, below, meth, c, A⟩ := Γ
  obtain ⟨hx, hb, hml, hown, hts, hret, hlk, hS0, hI, hA1, hA2, hR0, hl0⟩ := X
  intro H locs ls hP hS hl
  exact lv_dup_x2 hx hb hd (jxe_cat _ a) (jxe_cat _ b) (jxe_cat _ d) (k H locs ls hP hS hl)
theorem q_dup2 (X : jxOk Γ Θ l cc nL own ret rm) {a b : jxV} (hd : decode cc pc = .ok (.dup2, 1))  (hq : pc + 1 = q)
    (k : jxWq Γ Θ Φ q L (a :: b :: a :: b :: st) σ) : jxWq Γ Θ Φ pc L (a :: b :: st) σ := by
  subst hq
  obtain ⟨p, l', e, R, s, m, args, below, meth, c, A⟩ := Γ
  obtain ⟨hx, hb, hml, hown, hts, hret, hlk, hS0, hI, hA1, hA2, hR0, hl0⟩ := X
  intro H locs ls hP hS hl
  exact lv_dup2_11 hx hb hd (jxe_cat _ a) (jxe_cat _ b) (k H locs ls hP hS hl)
theorem q_if_eq (X : jxOk Γ Θ l cc nL own ret rm) {x : Int32} {off : Int} {tgt : Nat} (hd : decode cc pc = .ok (.ifCond .eq off, 3)) (ht : (pc : Int) + off = (tgt : Int)) (hq : pc + 3 = q)
    (kt : x = 0 → jxWq Γ Θ Φ tgt L st σ) (kf : ¬ x = 0 → jxWq Γ Θ Φ q L st σ) : jxWq Γ Θ Φ pc L (.inl x :: st) σ := by
  subst hq
  obtain ⟨p, l', e, R, s, m, args, below, meth, c, A⟩ := Γ
  obtain ⟨hx, hb, hml, hown, hts, hret, hlk, hS0, hI, hA1, hA2, hR0, hl0⟩ := X
  intro H locs ls hP hS hl
  exact lv_if_eq hx hb hd ht (fun h => kt h H locs ls hP hS hl) (fun h => kf h H locs ls hP hS hl)
theorem q_icmp_eq (X : jxOk Γ Θ l cc nL own ret rm) {x y : Int32} {off : Int} {tgt : Nat} (hd : decode cc pc = .ok (.if_icmp .eq off, 3)) (ht : (pc : Int) + off = (tgt : Int)) (hq : pc + 3 = q)
    (kt : x = y → jxWq Γ Θ Φ tgt L st σ) (kf : ¬ x = y → jxWq Γ Θ Φ q L st σ) : jxWq Γ Θ Φ pc L (.inl y :: .inl x :: st) σ := by
  subst hq
  obtain ⟨p, l', e, R, s, m, args, below, meth, c, A⟩ := Γ
  obtain ⟨hx, hb, hml, hown, hts, hret, hlk, hS0, hI, hA1, hA2, hR0, hl0⟩ := X
  intro H locs ls hP hS hl
  exact lv_icmp_eq hx hb hd ht (fun h => kt h H locs ls hP hS hl) (fun h => kf h H locs ls hP hS hl)
theorem q_if_ne (X : jxOk Γ Θ l cc nL own ret rm) {x : Int32} {off : Int} {tgt : Nat} (hd : decode cc pc = .ok (.ifCond .ne off, 3)) (ht : (pc : Int) + off = (tgt : Int)) (hq : pc + 3 = q)
    (kt : ¬ x = 0 → jxWq Γ Θ Φ tgt L st σ) (kf : x = 0 → jxWq Γ Θ Φ q L st σ) : jxWq Γ Θ Φ pc L (.inl x :: st) σ := by
  subst hq
  obtain ⟨p, l', e, R, s, m, args, below, meth, c, A⟩ := Γ
  obtain ⟨hx, hb, hml, hown, hts, hret, hlk, hS0, hI, hA1, hA2, hR0, hl0⟩ := X
  intro H locs ls hP hS hl
  exact lv_if_ne hx hb hd ht (fun h => kt h H locs ls hP hS hl) (fun h => kf h H locs ls hP hS hl)
theorem q_icmp_ne (X : jxOk Γ Θ l cc nL own ret rm) {x y : Int32} {off : Int} {tgt : Nat} (hd : decode cc pc = .ok (.if_icmp .ne off, 3)) (ht : (pc : Int) + off = (tgt : Int)) (hq : pc + 3 = q)
    (kt : ¬ x = y → jxWq Γ Θ Φ tgt L st σ) (kf : x = y → jxWq Γ Θ Φ q L st σ) : jxWq Γ Θ Φ pc L (.inl y :: .inl x :: st) σ := by
  subst hq
  obtain ⟨p, l', e, R, s, m, args, below, meth, c, A⟩ := Γ
  obtain ⟨hx, hb, hml, hown, hts, hret, hlk, hS0, hI, hA1, hA2, hR0, hl0⟩ := X
  intro H locs ls hP hS hl
  exact lv_icmp_ne hx hb hd ht (fun h => kt h H locs ls hP hS hl) (fun h => kf h H locs ls hP hS hl)
theorem q_if_lt (X : jxOk Γ Θ l cc nL own ret rm) {x : Int32} {off : Int} {tgt : Nat} (hd : decode cc pc = .ok (.ifCond .lt off, 3)) (ht : (pc : Int) + off = (tgt : Int)) (hq : pc + 3 = q)
    (kt : x < 0 → jxWq Γ Θ Φ tgt L st σ) (kf : ¬ x < 0 → jxWq Γ Θ Φ q L st σ) : jxWq Γ Θ Φ pc L (.inl x :: st) σ := by
  subst hq
  obtain ⟨p, l', e, R, s, m, args, below, meth, c, A⟩ := Γ
  obtain ⟨hx, hb, hml, hown, hts, hret, hlk, hS0, hI, hA1, hA2, hR0, hl0⟩ := X
  intro H locs ls hP hS hl
  exact lv_if_lt hx hb hd ht (fun h => kt h H locs ls hP hS hl) (fun h => kf h H locs ls hP hS hl)
theorem q_icmp_lt (X : jxOk Γ Θ l cc nL own ret rm) {x y : Int32} {off : Int} {tgt : Nat} (hd : decode cc pc = .ok (.if_icmp .lt off, 3)) (ht : (pc : Int) + off = (tgt : Int)) (hq : pc + 3 = q)
    (kt : x < y → jxWq Γ Θ Φ tgt L st σ) (kf : ¬ x < y → jxWq Γ Θ Φ q L st σ) : jxWq Γ Θ Φ pc L (.inl y :: .inl x :: st) σ := by
  subst hq
  obtain ⟨p, l', e, R, s, m, args, below, meth, c, A⟩ := Γ
  obtain ⟨hx, hb, hml, hown, hts, hret, hlk, hS0, hI, hA1, hA2, hR0, hl0⟩ := X
  intro H locs ls hP hS hl
  exact lv_icmp_lt hx hb hd ht (fun h => kt h H locs ls hP hS hl) (fun h => kf h H locs ls hP hS hl)
theorem q_if_ge (X : jxOk Γ Θ l cc nL own ret rm) {x : Int32} {off : Int} {tgt : Nat} (hd : decode cc pc = .ok (.ifCond .ge off, 3)) (ht : (pc : Int) + off = (tgt : Int)) (hq : pc + 3 = q)
    (kt : 0 ≤ x → jxWq Γ Θ Φ tgt L st σ) (kf : ¬ 0 ≤ x → jxWq Γ Θ Φ q L st σ) : jxWq Γ Θ Φ pc L (.inl x :: st) σ := by
  subst hq
  obtain ⟨p, l', e, R, s, m, args, below, meth, c, A⟩ := Γ
  obtain ⟨hx, hb, hml, hown, hts, hret, hlk, hS0, hI, hA1, hA2, hR0, hl0⟩ := X
  intro H locs ls hP hS hl
  exact lv_if_ge hx hb hd ht (fun h => kt h H locs ls hP hS hl) (fun h => kf h H locs ls hP hS hl)
theorem q_icmp_ge (X : jxOk Γ Θ l cc nL own ret rm) {x y : Int32} {off : Int} {tgt : Nat} (hd : decode cc pc = .ok (.if_icmp .ge off, 3)) (ht : (pc : Int) + off = (tgt : Int)) (hq : pc + 3 = q)
    (kt : y ≤ x → jxWq Γ Θ Φ tgt L st σ) (kf : ¬ y ≤ x → jxWq Γ Θ Φ q L st σ) : jxWq Γ Θ Φ pc L (.inl y :: .inl x :: st) σ := by
  subst hq
  obtain ⟨p, l', e, R, s, m, args, below, meth, c, A⟩ := Γ
  obtain ⟨hx, hb, hml, hown, hts, hret, hlk, hS0, hI, hA1, hA2, hR0, hl0⟩ := X
  intro H locs ls hP hS hl
  exact lv_icmp_ge hx hb hd ht (fun h => kt h H locs ls hP hS hl) (fun h => kf h H locs ls hP hS hl)
theorem q_if_gt (X : jxOk Γ Θ l cc nL own ret rm) {x : Int32} {off : Int} {tgt : Nat} (hd : decode cc pc = .ok (.ifCond .gt off, 3)) (ht : (pc : Int) + off = (tgt : Int)) (hq : pc + 3 = q)
    (kt : 0 < x → jxWq Γ Θ Φ tgt L st σ) (kf : ¬ 0 < x → jxWq Γ Θ Φ q L st σ) : jxWq Γ Θ Φ pc L (.inl x :: st) σ := by
  subst hq
  obtain ⟨p, l', e, R, s, m, args, below, meth, c, A⟩ := Γ
  obtain ⟨hx, hb, hml, hown, hts, hret, hlk, hS0, hI, hA1, hA2, hR0, hl0⟩ := X
  intro H locs ls hP hS hl
  exact lv_if_gt hx hb hd ht (fun h => kt h H locs ls hP hS hl) (fun h => kf h H locs ls hP hS hl)
theorem q_icmp_gt (X : jxOk Γ Θ l cc nL own ret rm) {x y : Int32} {off : Int} {tgt : Nat} (hd : decode cc pc = .ok (.if_icmp .gt off, 3)) (ht : (pc : Int) + off = (tgt : Int)) (hq : pc + 3 = q)
    (kt : y < x → jxWq Γ Θ Φ tgt L st σ) (kf : ¬ y < x → jxWq Γ Θ Φ q L st σ) : jxWq Γ Θ Φ pc L (.inl y :: .inl x :: st) σ := by
  subst hq
  obtain ⟨p, l', e, R, s, m, args, below, meth, c, A⟩ := Γ
  obtain ⟨hx, hb, hml, hown, hts, hret, hlk, hS0, hI, hA1, hA2, hR0, hl0⟩ := X
  intro H locs ls hP hS hl
  exact lv_icmp_gt hx hb hd ht (fun h => kt h H locs ls hP hS hl) (fun h => kf h H locs ls hP hS hl)
theorem q_if_le (X : jxOk Γ Θ l cc nL own ret rm) {x : Int32} {off : Int} {tgt : Nat} (hd : decode cc pc = .ok (.ifCond .le off, 3)) (ht : (pc : Int) + off = (tgt : Int)) (hq : pc + 3 = q)
    (kt : x ≤ 0 → jxWq Γ Θ Φ tgt L st σ) (kf : ¬ x ≤ 0 → jxWq Γ Θ Φ q L st σ) : jxWq Γ Θ Φ pc L (.inl x :: st) σ := by
  subst hq
  obtain ⟨p, l', e, R, s, m, args, below, meth, c, A⟩ := Γ
  obtain ⟨hx, hb, hml, hown, hts, hret, hlk, hS0, hI, hA1, hA2, hR0, hl0⟩ := X
  intro H locs ls hP hS hl
  exact lv_if_le hx hb hd ht (fun h => kt h H locs ls hP hS hl) (fun h => kf h H locs ls hP hS hl)
theorem q_icmp_le (X : jxOk Γ Θ l cc nL own ret rm) {x y : Int32} {off : Int} {tgt : Nat} (hd : decode cc pc = .ok (.if_icmp .le off, 3)) (ht : (pc : Int) + off = (tgt : Int)) (hq : pc + 3 = q)
    (kt : x ≤ y → jxWq Γ Θ Φ tgt L st σ) (kf : ¬ x ≤ y → jxWq Γ Θ Φ q L st σ) : jxWq Γ Θ Φ pc L (.inl y :: .inl x :: st) σ := by
  subst hq
  obtain ⟨p, l', e, R, s, m, args, below, meth, c, A⟩ := Γ
  obtain ⟨hx, hb, hml, hown, hts, hret, hlk, hS0, hI, hA1, hA2, hR0, hl0⟩ := X
  intro H locs ls hP hS hl
  exact lv_icmp_le hx hb hd ht (fun h => kt h H locs ls hP hS hl) (fun h => kf h H locs ls hP hS hl)
theorem q_ncmp_eq (X : jxOk Γ Θ l cc nL own ret rm) {a b : Nat} {off : Int} {tgt : Nat} (hd : decode cc pc = .ok (.if_icmp .eq off, 3)) (ht : (pc : Int) + off = (tgt : Int)) (hq : pc + 3 = q) (ha : a < 2 ^ 31) (hb : b < 2 ^ 31)
    (kt : a = b → jxWq Γ Θ Φ tgt L st σ) (kf : ¬ a = b → jxWq Γ Θ Φ q L st σ) : jxWq Γ Θ Φ pc L (.inl (nI b) :: .inl (nI a) :: st) σ := by
  have e := nI_eq ha hb
  exact q_icmp_eq X hd ht hq (fun h => kt (e.mp h)) (fun h => kf (fun z => h (e.mpr z)))
theorem q_nif_eq (X : jxOk Γ Θ l cc nL own ret rm) {a : Nat} {off : Int} {tgt : Nat} (hd : decode cc pc = .ok (.ifCond .eq off, 3)) (ht : (pc : Int) + off = (tgt : Int)) (hq : pc + 3 = q) (ha : a < 2 ^ 31)
    (kt : a = 0 → jxWq Γ Θ Φ tgt L st σ) (kf : ¬ a = 0 → jxWq Γ Θ Φ q L st σ) : jxWq Γ Θ Φ pc L (.inl (nI a) :: st) σ := by
  have e := nI_eq ha (by decide : 0 < 2 ^ 31)
  exact q_if_eq X hd ht hq (fun h => kt (e.mp (by rw [nI_0]; exact h))) (fun h => kf (fun z => h (by have := e.mpr z; rw [nI_0] at this; exact this)))
theorem q_ncmp_ne (X : jxOk Γ Θ l cc nL own ret rm) {a b : Nat} {off : Int} {tgt : Nat} (hd : decode cc pc = .ok (.if_icmp .ne off, 3)) (ht : (pc : Int) + off = (tgt : Int)) (hq : pc + 3 = q) (ha : a < 2 ^ 31) (hb : b < 2 ^ 31)
    (kt : ¬ a = b → jxWq Γ Θ Φ tgt L st σ) (kf : a = b → jxWq Γ Θ Φ q L st σ) : jxWq Γ Θ Φ pc L (.inl (nI b) :: .inl (nI a) :: st) σ := by
  have e := not_congr (nI_eq ha hb)
  exact q_icmp_ne X hd ht hq (fun h => kt (e.mp h)) (fun h => kf ((nI_eq ha hb).mp h))
theorem q_nif_ne (X : jxOk Γ Θ l cc nL own ret rm) {a : Nat} {off : Int} {tgt : Nat} (hd : decode cc pc = .ok (.ifCond .ne off, 3)) (ht : (pc : Int) + off = (tgt : Int)) (hq : pc + 3 = q) (ha : a < 2 ^ 31)
    (kt : ¬ a = 0 → jxWq Γ Θ Φ tgt L st σ) (kf : a = 0 → jxWq Γ Θ Φ q L st σ) : jxWq Γ Θ Φ pc L (.inl (nI a) :: st) σ := by
  have e := not_congr (nI_eq ha (by decide : 0 < 2 ^ 31))
  exact q_if_ne X hd ht hq (fun h => kt (e.mp (by rw [nI_0]; exact h))) (fun h => kf ((nI_eq ha (by decide : 0 < 2 ^ 31)).mp (h.trans nI_0.symm)))
theorem q_ncmp_lt (X : jxOk Γ Θ l cc nL own ret rm) {a b : Nat} {off : Int} {tgt : Nat} (hd : decode cc pc = .ok (.if_icmp .lt off, 3)) (ht : (pc : Int) + off = (tgt : Int)) (hq : pc + 3 = q) (ha : a < 2 ^ 31) (hb : b < 2 ^ 31)
    (kt : a < b → jxWq Γ Θ Φ tgt L st σ) (kf : ¬ a < b → jxWq Γ Θ Φ q L st σ) : jxWq Γ Θ Φ pc L (.inl (nI b) :: .inl (nI a) :: st) σ := by
  have e := nI_ltI ha hb
  exact q_icmp_lt X hd ht hq (fun h => kt (e.mp h)) (fun h => kf (fun z => h (e.mpr z)))
theorem q_ncmp_ge (X : jxOk Γ Θ l cc nL own ret rm) {a b : Nat} {off : Int} {tgt : Nat} (hd : decode cc pc = .ok (.if_icmp .ge off, 3)) (ht : (pc : Int) + off = (tgt : Int)) (hq : pc + 3 = q) (ha : a < 2 ^ 31) (hb : b < 2 ^ 31)
    (kt : b ≤ a → jxWq Γ Θ Φ tgt L st σ) (kf : ¬ b ≤ a → jxWq Γ Θ Φ q L st σ) : jxWq Γ Θ Φ pc L (.inl (nI b) :: .inl (nI a) :: st) σ := by
  have e := nI_leI hb ha
  exact q_icmp_ge X hd ht hq (fun h => kt (e.mp h)) (fun h => kf (fun z => h (e.mpr z)))
theorem q_ncmp_gt (X : jxOk Γ Θ l cc nL own ret rm) {a b : Nat} {off : Int} {tgt : Nat} (hd : decode cc pc = .ok (.if_icmp .gt off, 3)) (ht : (pc : Int) + off = (tgt : Int)) (hq : pc + 3 = q) (ha : a < 2 ^ 31) (hb : b < 2 ^ 31)
    (kt : b < a → jxWq Γ Θ Φ tgt L st σ) (kf : ¬ b < a → jxWq Γ Θ Φ q L st σ) : jxWq Γ Θ Φ pc L (.inl (nI b) :: .inl (nI a) :: st) σ := by
  have e := nI_ltI hb ha
  exact q_icmp_gt X hd ht hq (fun h => kt (e.mp h)) (fun h => kf (fun z => h (e.mpr z)))
theorem q_nif_gt (X : jxOk Γ Θ l cc nL own ret rm) {a : Nat} {off : Int} {tgt : Nat} (hd : decode cc pc = .ok (.ifCond .gt off, 3)) (ht : (pc : Int) + off = (tgt : Int)) (hq : pc + 3 = q) (ha : a < 2 ^ 31)
    (kt : 0 < a → jxWq Γ Θ Φ tgt L st σ) (kf : ¬ 0 < a → jxWq Γ Θ Φ q L st σ) : jxWq Γ Θ Φ pc L (.inl (nI a) :: st) σ := by
  have e := nI_ltI (by decide : 0 < 2 ^ 31) ha
  exact q_if_gt X hd ht hq (fun h => kt (e.mp (by rw [nI_0]; exact h))) (fun h => kf (fun z => h (by have := e.mpr z; rw [nI_0] at this; exact this)))
theorem q_ncmp_le (X : jxOk Γ Θ l cc nL own ret rm) {a b : Nat} {off : Int} {tgt : Nat} (hd : decode cc pc = .ok (.if_icmp .le off, 3)) (ht : (pc : Int) + off = (tgt : Int)) (hq : pc + 3 = q) (ha : a < 2 ^ 31) (hb : b < 2 ^ 31)
    (kt : a ≤ b → jxWq Γ Θ Φ tgt L st σ) (kf : ¬ a ≤ b → jxWq Γ Θ Φ q L st σ) : jxWq Γ Θ Φ pc L (.inl (nI b) :: .inl (nI a) :: st) σ := by
  have e := nI_leI ha hb
  exact q_icmp_le X hd ht hq (fun h => kt (e.mp h)) (fun h => kf (fun z => h (e.mpr z)))
theorem q_nif_le (X : jxOk Γ Θ l cc nL own ret rm) {a : Nat} {off : Int} {tgt : Nat} (hd : decode cc pc = .ok (.ifCond .le off, 3)) (ht : (pc : Int) + off = (tgt : Int)) (hq : pc + 3 = q) (ha : a < 2 ^ 31)
    (kt : a ≤ 0 → jxWq Γ Θ Φ tgt L st σ) (kf : ¬ a ≤ 0 → jxWq Γ Θ Φ q L st σ) : jxWq Γ Θ Φ pc L (.inl (nI a) :: st) σ := by
  have e := nI_leI ha (by decide : 0 < 2 ^ 31)
  exact q_if_le X hd ht hq (fun h => kt (e.mp (by rw [nI_0]; exact h))) (fun h => kf (fun z => h (by have := e.mpr z; rw [nI_0] at this; exact this)))
theorem q_goto (X : jxOk Γ Θ l cc nL own ret rm) {off : Int} {tgt : Nat} (hd : decode cc pc = .ok (.goto off, 3)) (ht : (pc : Int) + off = (tgt : Int)) (k : jxWq Γ Θ Φ tgt L st σ) : jxWq Γ Θ Φ pc L st σ := by
  obtain ⟨p, l', e, R, s, m, args, below, meth, c, A⟩ := Γ
  obtain ⟨hx, hb, hml, hown, hts, hret, hlk, hS0, hI, hA1, hA2, hR0, hl0⟩ := X
  intro H locs ls hP hS hl
  exact lv_goto hx hb hd ht (k H locs ls hP hS hl)
theorem q_getI (X : jxOk Γ Θ l cc nL own ret rm) {ref C : String} {T : u_T} {N ci index : Nat} {fl : List (Option Nat)} {g r j : Nat} (hd : decode cc pc = .ok (.getfield index, 3)) (hin : ∀ w ∈ u_ws C T N, w ∈ jW) (hk : jxk g = .inl (ci, fl)) (hc : jxCl[ci]? = some (C, T, N)) {v : Int32} (hj : fl[j]? = some none) (hlt : j < N) (hlink : Cond.fieldLink own index ref (T j).2.1 (T j).2.2.1 ∈ jW) (href : (T j).1 = ref) (hp : Θ.2.2.2 g r) (hq : pc + 3 = q) (hv0 : σ g r j = v)
    (k : jxWq Γ Θ Φ q L (.inl v :: st) σ) : jxWq Γ Θ Φ pc L (.inr (g, r) :: st) σ := by
  subst hv0
  subst hq
  obtain ⟨p, l', e, R, s, m, args, below, meth, c, A⟩ := Γ
  obtain ⟨hx, hb, hml, hown, hts, hret, hlk, hS0, hI, hA1, hA2, hR0, hl0⟩ := X
  intro H locs ls hP hS hl
  have hv := jxfs_int Θ.2.2.1 (σ g r) 0 j fl hj
  rw [Nat.zero_add] at hv
  refine va_get (ws := [(Θ.2.2.1 g r, jxcon Θ (jxk g) (σ g r))]) hx hb hts hin hown hS0.1 (hP.one hp) 0 (by rw [hk]; rfl) hc j hlt (hts _ hlink) (fun x h => by rw [← href]; exact h) hv hd ?_
  exact k H locs ls hP hS hl
theorem q_getR (X : jxOk Γ Θ l cc nL own ret rm) {ref C : String} {T : u_T} {N ci index : Nat} {fl : List (Option Nat)} {g r j : Nat} (hd : decode cc pc = .ok (.getfield index, 3)) (hin : ∀ w ∈ u_ws C T N, w ∈ jW) (hk : jxk g = .inl (ci, fl)) (hc : jxCl[ci]? = some (C, T, N)) {g' : Nat} (hj : fl[j]? = some (some g')) (hlt : j < N) (hlink : Cond.fieldLink own index ref (T j).2.1 (T j).2.2.1 ∈ jW) (href : (T j).1 = ref) (hp : Θ.2.2.2 g r) (hq : pc + 3 = q)
    (k : jxWq Γ Θ Φ q L ((.inr (g', 0) : jxV) :: st) σ) : jxWq Γ Θ Φ pc L (.inr (g, r) :: st) σ := by
  subst hq
  obtain ⟨p, l', e, R, s, m, args, below, meth, c, A⟩ := Γ
  obtain ⟨hx, hb, hml, hown, hts, hret, hlk, hS0, hI, hA1, hA2, hR0, hl0⟩ := X
  intro H locs ls hP hS hl
  have hv := jxfs_ref Θ.2.2.1 (σ g r) 0 j g' fl hj
  refine va_get (ws := [(Θ.2.2.1 g r, jxcon Θ (jxk g) (σ g r))]) hx hb hts hin hown hS0.1 (hP.one hp) 0 (by rw [hk]; rfl) hc j hlt (hts _ hlink) (fun x h => by rw [← href]; exact h) hv hd ?_
  exact k H locs ls hP hS hl
theorem q_putI (X : jxOk Γ Θ l cc nL own ret rm) {ref C : String} {T : u_T} {N ci index : Nat} {fl : List (Option Nat)} {g r j : Nat} (hd : decode cc pc = .ok (.putfield index, 3)) (hin : ∀ w ∈ u_ws C T N, w ∈ jW) (hk : jxk g = .inl (ci, fl)) (hc : jxCl[ci]? = some (C, T, N)) (ty0 : Nat → FieldType) (hty : ∀ k, k < N → parseFieldDescriptor (T k).2.2.1 = some (ty0 k)) (hnm : ∀ a, a < N → ∀ b, b < N → a ≠ b → (T a).2.1 ≠ (T b).2.1) (hj : fl[j]? = some none) (hlt : j < N) (hlink : Cond.fieldLink own index ref (T j).2.1 (T j).2.2.1 ∈ jW) (href : (T j).1 = ref) (hp : Θ.2.2.2 g r) (hq : pc + 3 = q) (hfin : (T j).2.2.2 = false) {ty : FieldType} {x : Int32} (hdt : parseFieldDescriptor (T j).2.2.1 = some ty) (hn : narrow ty (.int x) = .int x) (hfit : fits ty (.int x) = true)
    (k : jxWq Γ Θ Φ q L st (jxs σ g r j x)) : jxWq Γ Θ Φ pc L (.inl x :: .inr (g, r) :: st) σ := by
  subst hq
  obtain ⟨p, l', e, R, s, m, args, below, meth, c, A⟩ := Γ
  obtain ⟨hx, hb, hml, hown, hts, hret, hlk, hS0, hI, hA1, hA2, hR0, hl0⟩ := X
  intro H locs ls hP hS hl
  have hap := va_apart (own := own) hts hin ty0 hty hnm hS0.1 hc
  have h0 := hP g r hp
  rw [hk] at h0
  obtain ⟨r0, h1, cell, q1, q2, q3, q4⟩ := h0
  have hr : r0 = (C, T, N) := Option.some.inj (h1.symm.trans hc)
  subst hr
  obtain ⟨hSl, hfc, kC, hkC, hkind⟩ := hS0.1.1 ci _ hc
  obtain ⟨cf, kf, fi, f, hi, hsl⟩ := hSl j hlt
  have hlay := hts _ (hin _ (u_in_lay hlt))
  unfold u_lay at hlay
  rw [if_neg (by rw [hfin]; decide)] at hlay
  have hst := (u_facts hfc hkC (u_lays hts hin hlt) hi).1
  have h6 := u_store hfc hkC hkind hlay hi hdt hn hfit
  refine W.putK hx hb (f := f) ⟨hown, hts _ hlink, ⟨_, _, _, by rw [← href]; exact hi⟩, hst⟩ (by rw [q2]; exact h6) q1 q3 (by rw [hsl]; exact k2_hasslot (q4 j hlt)) rfl rfl hd fun H' e1 e2 e3 => ?_
  rw [hsl] at e1 ⊢
  refine k H' _ ls (hP.set hI hp ?_ e3) (hS.put e2 e3 (hA1 g r hp)) hl
  rw [hk]
  refine ⟨_, hc, t_OB.to (V := updV (vp_V (jxfs Θ.2.2.1 (σ g r) 0 fl)) j (.int x)) ⟨_, e1, q2, q3, t_set q4 hap hlt (.int x)⟩ (fun i _ => ?_)⟩
  rw [vp_updV_set (by rw [jxfs_len]; exact (List.getElem?_eq_some_iff.mp hj).1), jxfs_set _ _ 0 j x fl hj, Nat.zero_add]
theorem q_iald (X : jxOk Γ Θ l cc nL own ret rm) {v : Int32} {g r n j : Nat} {i : Int32} (hd : decode cc pc = .ok (.iaload, 1)) (hk : jxk g = .inr (.inl (0, n))) (hn : n < 2 ^ 31) (hi : i = nI j) (hj : j < n) (hp : Θ.2.2.2 g r) (hq : pc + 1 = q) (hv0 : σ g r j = v)
    (k : jxWq Γ Θ Φ q L (.inl v :: st) σ) : jxWq Γ Θ Φ pc L (.inl i :: .inr (g, r) :: st) σ := by
  subst hi; subst hv0
  subst hq
  obtain ⟨p, l', e, R, s, m, args, below, meth, c, A⟩ := Γ
  obtain ⟨hx, hb, hml, hown, hts, hret, hlk, hS0, hI, hA1, hA2, hR0, hl0⟩ := X
  intro H locs ls hP hS hl
  refine va_iald (ws := [(Θ.2.2.1 g r, jxcon Θ (jxk g) (σ g r))]) (tys := jxtys Θ.2.1) (cA := Θ.2.1 0) (n := n) (f := σ g r) hx hb hS0.1 (hP.one hp) 0 0 (by rw [hk]; rfl) rfl (vp_in_nI hj hn) hd ?_
  rw [nI_clamp (by omega)]
  exact k H locs ls hP hS hl
theorem q_zald (X : jxOk Γ Θ l cc nL own ret rm) {v : Int32} {g r n j : Nat} {i : Int32} (hd : decode cc pc = .ok (.baload, 1)) (hk : jxk g = .inr (.inl (1, n))) (hn : n < 2 ^ 31) (hi : i = nI j) (hj : j < n) (hp : Θ.2.2.2 g r) (hq : pc + 1 = q) (hv0 : σ g r j = v)
    (k : jxWq Γ Θ Φ q L (.inl v :: st) σ) : jxWq Γ Θ Φ pc L (.inl i :: .inr (g, r) :: st) σ := by
  subst hi; subst hv0
  subst hq
  obtain ⟨p, l', e, R, s, m, args, below, meth, c, A⟩ := Γ
  obtain ⟨hx, hb, hml, hown, hts, hret, hlk, hS0, hI, hA1, hA2, hR0, hl0⟩ := X
  intro H locs ls hP hS hl
  refine va_zald (ws := [(Θ.2.2.1 g r, jxcon Θ (jxk g) (σ g r))]) (tys := jxtys Θ.2.1) (cA := Θ.2.1 1) (n := n) (f := σ g r) hx hb hS0.1 (hP.one hp) 0 1 (by rw [hk]; rfl) rfl (vp_in_nI hj hn) hd ?_
  rw [nI_clamp (by omega)]
  exact k H locs ls hP hS hl
theorem q_iast (X : jxOk Γ Θ l cc nL own ret rm) {x : Int32} {g r n j : Nat} {i : Int32} (hd : decode cc pc = .ok (.iastore, 1)) (hk : jxk g = .inr (.inl (0, n))) (hn : n < 2 ^ 31) (hi : i = nI j) (hj : j < n) (hp : Θ.2.2.2 g r) (hq : pc + 1 = q)
    (k : jxWq Γ Θ Φ q L st (jxs σ g r j x)) : jxWq Γ Θ Φ pc L (.inl x :: .inl i :: .inr (g, r) :: st) σ := by
  subst hi
  subst hq
  obtain ⟨p, l', e, R, s, m, args, below, meth, c, A⟩ := Γ
  obtain ⟨hx, hb, hml, hown, hts, hret, hlk, hS0, hI, hA1, hA2, hR0, hl0⟩ := X
  intro H locs ls hP hS hl
  have h0 := hP g r hp
  rw [hk] at h0
  have h0 : H[Θ.2.2.1 g r]? = some (arrV (Θ.2.1 0) n (fun j => .int (σ g r j))) := h0
  have hin := vp_in_nI hj hn
  refine W.iast hx hb h0 ((hS0.1.2 0 _ (rfl : (jxtys Θ.2.1)[0]? = some (Θ.2.1 0, .int))).1 n (fun j => .int (σ g r j))) (fun q => by cases q) (by rw [arrV_size]; exact hin) rfl rfl hd fun H1 e z oq => ?_
  rw [nI_clamp (by omega)] at e ⊢
  skip
  refine k H1 _ ls (hP.set hI hp ?_ oq) (hS.put z oq (hA1 g r hp)) hl
  rw [hk]
  show H1[Θ.2.2.1 g r]? = some (arrV (Θ.2.1 0) n (fun i => .int (upd (σ g r) j x i)))
  rw [e, arrV_store]
  congr 2
  funext i
  by_cases hq : i = j
  · subst hq
    simp [updV, upd]
  · simp [updV, upd, hq]
theorem q_zast (X : jxOk Γ Θ l cc nL own ret rm) {x : Int32} {g r n j : Nat} {i : Int32} (hd : decode cc pc = .ok (.bastore, 1)) (hk : jxk g = .inr (.inl (1, n))) (hn : n < 2 ^ 31) (hi : i = nI j) (hj : j < n) (hp : Θ.2.2.2 g r) (hq : pc + 1 = q) (hx0 : narrow .boolean (.int x) = .int x)
    (k : jxWq Γ Θ Φ q L st (jxs σ g r j x)) : jxWq Γ Θ Φ pc L (.inl x :: .inl i :: .inr (g, r) :: st) σ := by
  subst hi
  subst hq
  obtain ⟨p, l', e, R, s, m, args, below, meth, c, A⟩ := Γ
  obtain ⟨hx, hb, hml, hown, hts, hret, hlk, hS0, hI, hA1, hA2, hR0, hl0⟩ := X
  intro H locs ls hP hS hl
  have h0 := hP g r hp
  rw [hk] at h0
  have h0 : H[Θ.2.2.1 g r]? = some (arrV (Θ.2.1 1) n (fun j => .int (σ g r j))) := h0
  have hin := vp_in_nI hj hn
  refine W.zast hx hb h0 ((hS0.1.2 1 _ (rfl : (jxtys Θ.2.1)[1]? = some (Θ.2.1 1, .boolean))).1 n (fun j => .int (σ g r j))) (fun q => by cases q) (by rw [arrV_size]; exact hin) rfl rfl hd fun H1 e z oq => ?_
  rw [nI_clamp (by omega)] at e ⊢
  rw [hx0] at e
  refine k H1 _ ls (hP.set hI hp ?_ oq) (hS.put z oq (hA1 g r hp)) hl
  rw [hk]
  show H1[Θ.2.2.1 g r]? = some (arrV (Θ.2.1 1) n (fun i => .int (upd (σ g r) j x i)))
  rw [e, arrV_store]
  congr 2
  funext i
  by_cases hq : i = j
  · subst hq
    simp [updV, upd]
  · simp [updV, upd, hq]
theorem q_aald (X : jxOk Γ Θ l cc nL own ret rm) {g r n j g' : Nat} {i : Int32} (hd : decode cc pc = .ok (.aaload, 1)) (hk : jxk g = .inr (.inr (g', n))) (hn : n < 2 ^ 31) (hi : i = nI j) (hj : j < n) (hp : Θ.2.2.2 g r) (hq : pc + 1 = q)
    (k : jxWq Γ Θ Φ q L (.inr (g', j) :: st) σ) : jxWq Γ Θ Φ pc L (.inl i :: .inr (g, r) :: st) σ := by
  subst hi
  subst hq
  obtain ⟨p, l', e, R, s, m, args, below, meth, c, A⟩ := Γ
  obtain ⟨hx, hb, hml, hown, hts, hret, hlk, hS0, hI, hA1, hA2, hR0, hl0⟩ := X
  intro H locs ls hP hS hl
  have h0 := hP g r hp
  rw [hk] at h0
  have h0 : H[Θ.2.2.1 g r]? = some (arrV (Θ.2.1 2) n (fun i => va_rf (some (Θ.2.2.1 g' i)))) := h0
  have hin := vp_in_nI hj hn
  refine W.aald (v := .ref (Θ.2.2.1 g' j)) (ty := .array .int) hx hb h0 ((hS0.1.2 2 _ (rfl : (jxtys Θ.2.1)[2]? = some (Θ.2.1 2, .array .int))).1 n (fun i => va_rf (some (Θ.2.2.1 g' i)))) rfl (fun q => by cases q) (by rw [arrV_size]; exact hin) (by rw [nI_clamp (by omega), arrV_read _ _ hj]; rfl) rfl rfl hd ?_
  exact k H locs ls hP hS hl
theorem q_alen (X : jxOk Γ Θ l cc nL own ret rm) {g r n : Nat} (hd : decode cc pc = .ok (.arraylength, 1)) (hk : jxk g = .inr (.inl (0, n))) (hp : Θ.2.2.2 g r) (hq : pc + 1 = q)
    (k : jxWq Γ Θ Φ q L (.inl (nI n) :: st) σ) : jxWq Γ Θ Φ pc L (.inr (g, r) :: st) σ := by
  subst hq
  obtain ⟨p, l', e, R, s, m, args, below, meth, c, A⟩ := Γ
  obtain ⟨hx, hb, hml, hown, hts, hret, hlk, hS0, hI, hA1, hA2, hR0, hl0⟩ := X
  intro H locs ls hP hS hl
  exact va_alen (ws := [(Θ.2.2.1 g r, jxcon Θ (jxk g) (σ g r))]) (tys := jxtys Θ.2.1) (cA := Θ.2.1 0) (x := (n, .inl (σ g r))) hx hb hS0.1 (hP.one hp) 0 0 (by rw [hk]; rfl) rfl rfl hd (k H locs ls hP hS hl)
theorem jxWq.cast {L' : List (Option jxV)} {st' : List jxV} {σ' : jxM} (hL : L = L') (hs : st = st') (hσ : σ = σ') (k : jxWq Γ Θ Φ pc L' st' σ') : jxWq Γ Θ Φ pc L st σ := by
  subst hL; subst hs; subst hσ
  exact k
end JR

section JBQ
variable {Γ : jxG} {Θ : jxT} {Φ : jxQc} {l : Launch} {cc : ByteArray} {nL : Nat} {own : String} {ret : Option FieldType} {rm : Room} {pc q : Nat} {L : List (Option jxV)} {st : List jxV} {σ : jxM}
theorem q_bif_eq (X : jxOk Γ Θ l cc nL own ret rm) {b : Bool} {off : Int} {tgt : Nat} (hd : decode cc pc = .ok (.ifCond .eq off, 3)) (ht : (pc : Int) + off = (tgt : Int)) (hq : pc + 3 = q)
    (kt : b = false → jxWq Γ Θ Φ tgt L st σ) (kf : b = true → jxWq Γ Θ Φ q L st σ) : jxWq Γ Θ Φ pc L (.inl (jB b) :: st) σ :=
  q_if_eq X hd ht hq (fun h => kt ((jB_eq0 b).mp h)) (fun h => kf (by cases b with | true => rfl | false => exact absurd ((jB_eq0 false).mpr rfl) h))
theorem q_bif_ne (X : jxOk Γ Θ l cc nL own ret rm) {b : Bool} {off : Int} {tgt : Nat} (hd : decode cc pc = .ok (.ifCond .ne off, 3)) (ht : (pc : Int) + off = (tgt : Int)) (hq : pc + 3 = q)
    (kt : b = true → jxWq Γ Θ Φ tgt L st σ) (kf : b = false → jxWq Γ Θ Φ q L st σ) : jxWq Γ Θ Φ pc L (.inl (jB b) :: st) σ :=
  q_if_ne X hd ht hq (fun h => kt (by cases b with | true => rfl | false => exact absurd ((jB_eq0 false).mpr rfl) h)) (fun h => kf ((jB_eq0 b).mp h))
end JBQ
section JC
variable {p : Program} {l : Launch} {e : Env} {R : Room} {s : State} {m : MethodId} {args : Array Value} {below : List Frame} {meth : Method} {c : Code} {A : Nat → Prop}
variable {Θ : jxT} {Φ : jxQc} {Φ' : jxF} {cc : ByteArray} {nL : Nat} {own : String} {ret : Option FieldType} {rm : Room} {pc q : Nat} {L : List (Option jxV)} {st rest : List jxV} {σ : jxM}
theorem q_run {a : Array Value} (hA1 : ∀ g r, Θ.2.2.2 g r → A (Θ.2.2.1 g r)) (hA2 : ∀ q, s.heap.size ≤ q → A q)
    (hrun : ∀ (H : Heap) (locs : List Loc) (ls : Array Slot), jxP Θ σ H → va_S A s.heap H locs → jxL Θ.2.2.1 ls L → va_Run p l e R s m args below meth c H locs Φ.2.1 Φ.2.2 0 0 (F0 m pc ls (st.map (jxe Θ.2.2.1))) (rest.map (jxe Θ.2.2.1)) (jxQ Θ Φ' (jxA Θ H.size) a) (jxA Θ H.size))
    (kk : ∀ r σ', Φ' r σ' → jxWq (p, l, e, R, s, m, args, below, meth, c, A) Θ Φ (pc + 3) L (r.toList ++ rest) σ') : jxWq (p, l, e, R, s, m, args, below, meth, c, A) Θ Φ pc L st σ := by
  intro H locs ls hP hS hl T hT X0
  have hf := jxA_in hA1 hA2 hS
  obtain ⟨v, st₀, t, T', L', h0, X', hL, e1, e2, ⟨⟨r, σ', hv, hΦ, hP'⟩, hz, hk⟩, stp⟩ := hrun H locs ls hP hS hl T hT X0
  cases hv
  rw [h0] at hz hk
  have hS' : va_S A s.heap T'.heap (locs ++ L') := ⟨Nat.le_trans hS.1 (by rw [e1]; exact hz), fun q h1 h2 => by rw [e1, hk q (Nat.lt_of_lt_of_le h1 hS.1) (fun z => h2 (hf q z))]; exact hS.2.1 q h1 h2, fun q hq => by
      rcases List.mem_append.mp hq with h | h
      · exact hS.2.2 q h
      · exact hf _ (hL q h)⟩
  have kk' := kk r σ' hΦ T'.heap (locs ++ L') ls (by rw [e1]; exact hP') hS' hl T' rfl X'
  cases r with
  | none =>
    obtain ⟨t2, a1, b1⟩ := kk'
    exact ⟨t2, stp t2 a1, b1⟩
  | some v =>
    obtain ⟨t2, a1, b1⟩ := kk'
    exact ⟨t2, stp t2 a1, b1⟩
end JC
section JD
variable {Γ : jxG} {Θ : jxT} {Φ : jxQc} {Φ' : jxF} {l : Launch} {cc : ByteArray} {nL : Nat} {own : String} {ret : Option FieldType} {rm : Room} {pc q : Nat} {L : List (Option jxV)} {st as rest : List jxV} {σ : jxM}
variable {index maxL n : Nat} {y : MethodName} {bytes : ByteArray} {ret' : Option FieldType} {rm' : Room}
theorem q_callS (X : jxOk Γ Θ l cc nL own ret rm) (hd : decode cc pc = .ok (.invokestatic index, 3)) (hM : jxMet l y bytes maxL ret' rm' Θ as σ Φ') (w1 : Cond.methodLink own index y ∈ jW) (w2 : Cond.static y ∈ jW) (w3 : Cond.initialized y.cls ∈ jW) (w4 : Cond.code y bytes maxL ret' ∈ jW)
    (hy : y.cls ≠ "java/lang/invoke/MethodHandle" ∧ y.cls ≠ "java/lang/invoke/VarHandle" ∧ (parseMethodDescriptor y.desc).map (fun d => d.parameters.length) = some n) (hcs : Φ.2.1 ≤ rm.cells ∧ Φ.2.2 ≤ rm.slots) (hr0 : rm'.cells = 0 ∧ rm'.slots = 0) (hR : rm'.frames + 1 ≤ rm.frames ∧ 8 + (maxL + 11) + rm'.locals ≤ rm.locals)
    (hst : st = as.reverse ++ rest) (hn : as.length = n) (hr : rest.length ≤ 8) (hL : L.length = nL) (hq : pc + 3 = q) (kk : ∀ r σ', Φ' r σ' → jxWq Γ Θ Φ q L (r.toList ++ rest) σ') : jxWq Γ Θ Φ pc L st σ := by
  subst hq; subst hst
  obtain ⟨p, l', e, R, s, m, args, below, meth, c, A⟩ := Γ
  obtain ⟨hx, hb, hml, hown, hts, hret, hlk, hS0, hI, hA1, hA2, hR0, hl0⟩ := X
  subst hR0; subst hl0
  refine q_run (a := (as.map (jxe Θ.2.2.1)).toArray) hA1 hA2 (fun H locs ls hP hS hl => ?_) kk
  exact va_runS (As := as.map (jxe Θ.2.2.1)) ⟨hx, hb, hml, hown, hts⟩ (hM H.size) (va_cwS n hts (jW_goodS w1 w2 w3 w4) rfl hr0.1 hr0.2 hy hR) ⟨jxPre.blind, fun U hU hW => ⟨rfl, by rw [hU], by rw [hU]; exact hP, hS0.warm hW⟩⟩ rfl (by rw [List.length_map]; exact hn) (hl.1.trans hL) (by simp [F0]) (lv_room (jxrest _ hr)) hd ⟨hcs.1, hcs.2⟩
theorem q_callV {g r ci N : Nat} {fl : List (Option Nat)} {C : String} {T : u_T} (X : jxOk Γ Θ l cc nL own ret rm) (hd : decode cc pc = .ok (.invokevirtual index, 3)) (hM : jxMet l y bytes maxL ret' rm' Θ (.inr (g, r) :: as) σ Φ') (hk : jxk g = .inl (ci, fl)) (hc : jxCl[ci]? = some (C, T, N)) (hp : Θ.2.2.2 g r) (w1 : Cond.methodLink own index y ∈ jW) (w2 : Cond.instanceMethod y ∈ jW) (w3 : Cond.selects C y y ∈ jW) (w5 : Cond.initialized C ∈ jW) (w4 : Cond.code y bytes maxL ret' ∈ jW)
    (hy : y.cls = C ∧ y.cls ≠ "java/lang/invoke/MethodHandle" ∧ y.cls ≠ "java/lang/invoke/VarHandle" ∧ (parseMethodDescriptor y.desc).map (fun d => d.parameters.length) = some n) (hcs : Φ.2.1 ≤ rm.cells ∧ Φ.2.2 ≤ rm.slots) (hr0 : rm'.cells = 0 ∧ rm'.slots = 0) (hR : rm'.frames + 1 ≤ rm.frames ∧ 8 + (maxL + 11) + rm'.locals ≤ rm.locals)
    (hst : st = as.reverse ++ .inr (g, r) :: rest) (hn : as.length = n) (hr : rest.length ≤ 8) (hL : L.length = nL) (hq : pc + 3 = q) (kk : ∀ r σ', Φ' r σ' → jxWq Γ Θ Φ q L (r.toList ++ rest) σ') : jxWq Γ Θ Φ pc L st σ := by
  subst hq; subst hst
  obtain ⟨p, l', e, R, s, m, args, below, meth, c, A⟩ := Γ
  obtain ⟨hx, hb, hml, hown, hts, hret, hlk, hS0, hI, hA1, hA2, hR0, hl0⟩ := X
  subst hR0; subst hl0
  refine q_run (a := (Value.ref (Θ.2.2.1 g r) :: as.map (jxe Θ.2.2.1)).toArray) hA1 hA2 (fun H locs ls hP hS hl => ?_) kk
  exact va_runV (As := as.map (jxe Θ.2.2.1)) (C := C) ⟨hx, hb, hml, hown, hts⟩ (hM H.size) (cwV n hts (jW_goodV w1 w2 w3 w5 w4) rfl hr0.1 hr0.2 hy hR) ⟨jxPre.blind, jxrecv hS0 hP hk hc hp, fun U hU hW => ⟨rfl, by rw [hU], by rw [hU]; exact hP, hS0.warm hW⟩⟩ rfl (by rw [List.length_map]; exact hn) (hl.1.trans hL) (by simp [F0, jxe]) (lv_room (jxrest _ hr)) hd ⟨hcs.1, hcs.2⟩
end JD

