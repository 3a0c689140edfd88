/-! Orders by sets: what can follow a set so that an order is ended; the least order, step by step. mf t D: t may follow behind the set D. -/
def jad (D : Nat → Bool) (t : Nat) : Nat → Bool := fun i => D i || decide (i = t)
def jvs (C : Nat → Bool) (mf : Nat → (Nat → Bool) → Prop) : (Nat → Bool) → List Nat → Prop
  | D, [] => ∀ t, t < 8 → C t = true → D t = true
  | D, t :: l => t < 8 ∧ C t = true ∧ D t = false ∧ mf t D ∧ jvs C mf (jad D t) l
def jce (C : Nat → Bool) (mf : Nat → (Nat → Bool) → Prop) (D : Nat → Bool) : Prop := ∃ l, jvs C mf D l
def jnf (C : Nat → Bool) (mf : Nat → (Nat → Bool) → Prop) (D : Nat → Bool) (t : Nat) : Prop := t < 8 ∧ C t = true ∧ D t = false ∧ mf t D ∧ jce C mf (jad D t)
theorem jce_iff {C : Nat → Bool} {mf : Nat → (Nat → Bool) → Prop} {D : Nat → Bool} : jce C mf D ↔ (∀ t, t < 8 → C t = true → D t = true) ∨ ∃ t, jnf C mf D t := by
  constructor
  · rintro ⟨l, h⟩
    cases l with
    | nil => exact Or.inl h
    | cons t l => exact Or.inr ⟨t, h.1, h.2.1, h.2.2.1, h.2.2.2.1, l, h.2.2.2.2⟩
  · rintro (h | ⟨t, h1, h2, h3, h4, l, h5⟩)
    · exact ⟨[], h⟩
    · exact ⟨t :: l, h1, h2, h3, h4, h5⟩
/-- the members so far of a row -/
def jst (r : Nat → Nat) : Nat → Nat → Bool
  | 0, _ => false
  | k + 1, i => jst r k i || decide (i = r k)
theorem jst_iff {r : Nat → Nat} {k i : Nat} : jst r k i = true ↔ ∃ j, j < k ∧ r j = i := by
  induction k with
  | zero => simp [jst]
  | succ k ih =>
    rw [jst, Bool.or_eq_true, ih, decide_eq_true_eq]
    constructor
    · rintro (⟨j, h1, h2⟩ | h)
      · exact ⟨j, by omega, h2⟩
      · exact ⟨k, by omega, h.symm⟩
    · rintro ⟨j, h1, h2⟩
      by_cases e : j = k
      · exact Or.inr (by rw [← h2, e])
      · exact Or.inl ⟨j, by omega, h2⟩
/-- how many committed -/
def jct (C : Nat → Bool) : Nat := ((List.range 8).filter C).length
theorem jpm_len {C : Nat → Bool} {n : Nat} {r : Nat → Nat} (h : jpm C n r) : n = jct C := by
  obtain ⟨h1, h2, h3⟩ := h
  have nd1 : ((List.range n).map r).Nodup := by
    unfold List.Nodup
    rw [List.pairwise_map]
    refine List.Pairwise.imp_of_mem (fun {a b} ha hb hlt e => ?_) List.pairwise_lt_range
    have := h2 a b (List.mem_range.mp ha) (List.mem_range.mp hb) e
    omega
  have nd2 : ((List.range 8).filter C).Nodup := List.Pairwise.filter _ List.nodup_range
  have hp := (List.perm_ext_iff_of_nodup nd1 nd2).mpr (by
    intro a
    rw [List.mem_map, List.mem_filter, List.mem_range]
    constructor
    · rintro ⟨i, hi, rfl⟩
      exact h1 i (List.mem_range.mp hi)
    · rintro ⟨ha, hc⟩
      obtain ⟨i, hi, e⟩ := h3 a ha hc
      exact ⟨i, List.mem_range.mpr hi, e⟩)
  have := hp.length_eq
  simpa [jct] using this
/-- an order that may be: all that committed, each where it may follow -/
def jor (C : Nat → Bool) (mf : Nat → (Nat → Bool) → Prop) (n : Nat) (r : Nat → Nat) : Prop := jpm C n r ∧ ∀ i, i < n → mf (r i) (jst r i)
theorem jst_ext {r r' : Nat → Nat} {k : Nat} (h : ∀ j, j < k → r j = r' j) : jst r k = jst r' k := by
  funext i
  rw [Bool.eq_iff_iff, jst_iff, jst_iff]
  exact ⟨fun ⟨j, h1, h2⟩ => ⟨j, h1, by rw [← h j h1]; exact h2⟩, fun ⟨j, h1, h2⟩ => ⟨j, h1, by rw [h j h1]; exact h2⟩⟩
theorem jst_ad {r : Nat → Nat} {k : Nat} : jst r (k + 1) = jad (jst r k) (r k) := rfl
/-- what is left of an order ends its beginning -/
theorem jor_ce {C : Nat → Bool} {mf : Nat → (Nat → Bool) → Prop} {n : Nat} {r : Nat → Nat} (h : jor C mf n r) : ∀ k i, i + k = n → jce C mf (jst r i) := by
  obtain ⟨⟨h1, h2, h3⟩, h4⟩ := h
  intro k
  induction k with
  | zero =>
    intro i hi
    refine jce_iff.mpr (Or.inl (fun t ht hc => ?_))
    obtain ⟨j, hj, e⟩ := h3 t ht hc
    exact jst_iff.mpr ⟨j, by omega, e⟩
  | succ k ih =>
    intro i hi
    refine jce_iff.mpr (Or.inr ⟨r i, (h1 i (by omega)).1, (h1 i (by omega)).2, ?_, h4 i (by omega), ?_⟩)
    · cases e : jst r i (r i) with
      | false => rfl
      | true =>
        obtain ⟨j, hj, ej⟩ := jst_iff.mp e
        have := h2 j i (by omega) (by omega) ej
        omega
    · have := ih (i + 1) (by omega)
      rwa [jst_ad] at this
theorem jor_nf {C : Nat → Bool} {mf : Nat → (Nat → Bool) → Prop} {n : Nat} {r : Nat → Nat} (h : jor C mf n r) {i : Nat} (hi : i < n) : jnf C mf (jst r i) (r i) := by
  have hc := jor_ce h (n - (i + 1)) (i + 1) (by omega)
  rw [jst_ad] at hc
  refine ⟨(h.1.1 i hi).1, (h.1.1 i hi).2, ?_, h.2 i hi, hc⟩
  cases e : jst r i (r i) with
  | false => rfl
  | true =>
    obtain ⟨j, hj, ej⟩ := jst_iff.mp e
    have := h.1.2.1 j i (by omega) (by omega) ej
    omega
/-- a beginning and what ends it make an order -/
theorem jvs_or {C : Nat → Bool} {mf : Nat → (Nat → Bool) → Prop} : ∀ (l : List Nat) (r : Nat → Nat) (k : Nat), (∀ i, i < k → r i < 8 ∧ C (r i) = true) → (∀ i j, i < k → j < k → r i = r j → i = j) → (∀ i, i < k → mf (r i) (jst r i)) → jvs C mf (jst r k) l → ∃ n r', jor C mf n r' ∧ k ≤ n ∧ n = k + l.length ∧ (∀ i, i < k → r' i = r i) ∧ ∀ t l', l = t :: l' → r' k = t := by
  intro l
  induction l with
  | nil =>
    intro r k h1 h2 h3 h
    exact ⟨k, r, ⟨⟨h1, h2, fun t ht hc => jst_iff.mp (h t ht hc)⟩, h3⟩, Nat.le_refl _, rfl, fun _ _ => rfl, fun t l' q => by cases q⟩
  | cons t l ih =>
    intro r k h1 h2 h3 h
    obtain ⟨g1, g2, g3, g4, g5⟩ := h
    obtain ⟨r1, hr1⟩ : ∃ r1 : Nat → Nat, r1 = fun i => if i = k then t else r i := ⟨_, rfl⟩
    have keep : ∀ i, i < k → r1 i = r i := fun i hi => by rw [hr1]; exact if_neg (by omega)
    have atk : r1 k = t := by rw [hr1]; exact if_pos rfl
    have hst : ∀ i, i ≤ k → jst r1 i = jst r i := fun i hi => jst_ext (fun j hj => keep j (by omega))
    have notin : ∀ i, i < k → r i ≠ t := by
      intro i hi e
      rw [jst_iff.mpr ⟨i, hi, e⟩] at g3
      cases g3
    obtain ⟨n, r', o1, o2, o3, o4, o5⟩ := ih r1 (k + 1) (fun i hi => by
        by_cases e : i = k
        · subst e; rw [atk]; exact ⟨g1, g2⟩
        · rw [keep i (by omega)]; exact h1 i (by omega)) (fun i j hi hj e => by
        by_cases e1 : i = k
        · by_cases e2 : j = k
          · rw [e1, e2]
          · rw [e1, atk, keep j (by omega)] at e
            exact absurd e.symm (notin j (by omega))
        · by_cases e2 : j = k
          · rw [e2, atk, keep i (by omega)] at e
            exact absurd e (notin i (by omega))
          · rw [keep i (by omega), keep j (by omega)] at e
            exact h2 i j (by omega) (by omega) e) (fun i hi => by
        by_cases e : i = k
        · subst e; rw [atk, hst i (Nat.le_refl _)]; exact g4
        · rw [keep i (by omega), hst i (by omega)]; exact h3 i (by omega)) (by rw [jst_ad, atk, hst k (Nat.le_refl _)]; exact g5)
    refine ⟨n, r', o1, by omega, by rw [o3]; simp; omega, fun i hi => by rw [o4 i (by omega), keep i hi], fun t' l' q => ?_⟩
    cases q
    rw [o4 k (by omega), atk]
/-- the least order goes on with the least that can follow -/
theorem jor_least {C : Nat → Bool} {mf : Nat → (Nat → Bool) → Prop} {n : Nat} {r : Nat → Nat} (h : jor C mf n r) (hl : ∀ r', jor C mf n r' → jlx n r r') {i : Nat} (hi : i < n) : jnf C mf (jst r i) (r i) ∧ ∀ u, jnf C mf (jst r i) u → r i ≤ u := by
  refine ⟨jor_nf h hi, fun u hu => ?_⟩
  obtain ⟨u1, u2, u3, u4, l, u5⟩ := hu
  obtain ⟨n', r', o1, -, -, o4, o5⟩ := jvs_or (mf := mf) (C := C) (u :: l) r i (fun j hj => h.1.1 j (by omega)) (fun a b ha hb e => h.1.2.1 a b (by omega) (by omega) e) (fun j hj => h.2 j (by omega)) ⟨u1, u2, u3, u4, u5⟩
  have e : n' = n := (jpm_len o1.1).trans (jpm_len h.1).symm
  subst e
  have := hl r' o1 i hi (fun j hj => (o4 j hj).symm)
  rwa [o5 u l rfl] at this
theorem jce_or {C : Nat → Bool} {mf : Nat → (Nat → Bool) → Prop} (h : jce C mf (fun _ => false)) : ∃ n r, jor C mf n r := by
  obtain ⟨l, h⟩ := h
  obtain ⟨n, r', o1, -⟩ := jvs_or (mf := mf) (C := C) l (fun _ => 0) 0 (fun i hi => by omega) (fun i j hi => by omega) (fun i hi => by omega) h
  exact ⟨n, r', o1⟩
