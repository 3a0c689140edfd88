/-! A search by trying: the rows that are passed, and the first that fits. V: the rows that are looked for, of n places; at place k from lo k up to hi. -/
def jdf (V : (Nat → Nat) → Prop) (d : Nat) (row tr : Nat → Nat) : Prop := ∀ r, V r → (∀ k, k < d → (∀ j, j < k → row j = r j) → row k ≤ r k) ∧ ((∀ j, j < d → row j = r j) → tr d ≤ r d)
theorem jdf_0 {V : (Nat → Nat) → Prop} {row tr : Nat → Nat} (h : ∀ r, V r → tr 0 ≤ r 0) : jdf V 0 row tr := fun r hr => ⟨fun k hk => by omega, fun _ => h r hr⟩
/-- what is tried at place d does not fit -/
theorem jdf_no {V : (Nat → Nat) → Prop} {d : Nat} {row tr tr' : Nat → Nat} (h : jdf V d row tr) (hno : ∀ r, V r → (∀ j, j < d → row j = r j) → r d ≠ tr d) (ht : tr' d = tr d + 1) : jdf V d row tr' := fun r hr => ⟨(h r hr).1, fun q => by
  have h1 := (h r hr).2 q
  have h2 := hno r hr q
  omega⟩
/-- it fits: one place deeper -/
theorem jdf_in {V : (Nat → Nat) → Prop} {d : Nat} {row row' tr tr' : Nat → Nat} (h : jdf V d row tr) (hr : ∀ k, k < d → row' k = row k) (hd : row' d = tr d) (ht : ∀ r, V r → tr' (d + 1) ≤ r (d + 1)) : jdf V (d + 1) row' tr' := fun r hV => ⟨fun k hk hag => by
    by_cases e : k = d
    · subst e
      rw [hd]
      exact (h r hV).2 (fun j hj => by rw [← hr j hj]; exact hag j hj)
    · rw [hr k (by omega)]
      exact (h r hV).1 k (by omega) (fun j hj => by rw [← hr j (by omega)]; exact hag j hj), fun _ => ht r hV⟩
/-- all is tried at place d + 1: back -/
theorem jdf_out {V : (Nat → Nat) → Prop} {d : Nat} {row tr tr' : Nat → Nat} (h : jdf V (d + 1) row tr) (hhi : ∀ r, V r → (∀ j, j < d + 1 → row j = r j) → r (d + 1) < tr (d + 1)) (ht : tr' d = row d + 1) : jdf V d row tr' := fun r hV => ⟨fun k hk hag => (h r hV).1 k (by omega) hag, fun hag => by
  have h1 := (h r hV).1 d (by omega) hag
  rw [ht]
  refine Nat.lt_of_le_of_ne h1 (fun e => ?_)
  have ag : ∀ j, j < d + 1 → row j = r j := fun j hj => by
    by_cases q : j = d
    · rw [q]; exact e
    · exact hag j (by omega)
  have h2 := (h r hV).2 ag
  have h3 := hhi r hV ag
  omega⟩
theorem jdf_none {V : (Nat → Nat) → Prop} {row tr : Nat → Nat} (h : jdf V 0 row tr) (hhi : ∀ r, V r → r 0 < tr 0) : ∀ r, ¬ V r := fun r hV => by
  have h1 := (h r hV).2 (fun j hj => by omega)
  have h2 := hhi r hV
  omega
theorem jdf_least {V : (Nat → Nat) → Prop} {n : Nat} {row tr : Nat → Nat} (h : jdf V n row tr) : ∀ r, V r → jlx n row r := fun r hV k hk hag => (h r hV).1 k hk hag
/-- a number that falls with every step of such a search -/
def jmu (n : Nat) (tr : Nat → Nat) : Nat → Nat
  | 0 => (10 - tr 0) * 20 ^ n
  | d + 1 => jmu n tr d + (10 - tr (d + 1)) * 20 ^ (n - (d + 1))
theorem jmu_ext {n : Nat} {tr tr' : Nat → Nat} : ∀ d, (∀ k, k ≤ d → tr k = tr' k) → jmu n tr d = jmu n tr' d := by
  intro d
  induction d with
  | zero => intro h; simp [jmu, h 0 (Nat.le_refl _)]
  | succ d ih => intro h; simp [jmu, ih (fun k hk => h k (by omega)), h (d + 1) (Nat.le_refl _)]
theorem jmu_no {n d : Nat} {tr tr' : Nat → Nat} (hk : ∀ k, k < d → tr' k = tr k) (hd : tr' d = tr d + 1) (h9 : tr d < 10) : jmu n tr' d < jmu n tr d := by
  cases d with
  | zero =>
    simp only [jmu]
    exact Nat.mul_lt_mul_of_pos_right (by omega) (Nat.pow_pos (by omega))
  | succ d =>
    simp only [jmu]
    rw [jmu_ext (tr := tr') (tr' := tr) d (fun k h => hk k (by omega))]
    have := Nat.mul_lt_mul_of_pos_right (show 10 - tr' (d + 1) < 10 - tr (d + 1) by omega) (Nat.pow_pos (n := n - (d + 1)) (show 0 < 20 by omega))
    omega
theorem jmu_in {n d : Nat} {tr tr' : Nat → Nat} (hk : ∀ k, k < d → tr' k = tr k) (hd : tr' d = tr d + 1) (h9 : tr d < 10) (hn : d + 1 ≤ n) : jmu n tr' (d + 1) < jmu n tr d := by
  have e : 20 ^ (n - d) = 20 * 20 ^ (n - (d + 1)) := by
    rw [show n - d = (n - (d + 1)) + 1 by omega, Nat.pow_succ, Nat.mul_comm]
  have hp : 0 < 20 ^ (n - (d + 1)) := Nat.pow_pos (by omega)
  have key : (10 - tr' d) * 20 ^ (n - d) + (10 - tr' (d + 1)) * 20 ^ (n - (d + 1)) < (10 - tr d) * 20 ^ (n - d) := by
    rw [show 10 - tr d = (10 - tr' d) + 1 by omega, Nat.add_mul, Nat.one_mul]
    refine Nat.add_lt_add_left ?_ _
    rw [e]
    exact Nat.mul_lt_mul_of_pos_right (by omega) hp
  cases d with
  | zero =>
    simp only [jmu]
    simpa using key
  | succ d =>
    simp only [jmu]
    rw [jmu_ext (tr := tr') (tr' := tr) d (fun k h => hk k (by omega))]
    omega
theorem jmu_out {n d : Nat} {tr tr' : Nat → Nat} (hk : ∀ k, k ≤ d → tr' k = tr k) (h9 : tr (d + 1) < 10) : jmu n tr' d < jmu n tr (d + 1) := by
  simp only [jmu]
  rw [jmu_ext (tr := tr') (tr' := tr) d hk]
  have : 0 < (10 - tr (d + 1)) * 20 ^ (n - (d + 1)) := Nat.mul_pos (by omega) (Nat.pow_pos (by omega))
  omega
