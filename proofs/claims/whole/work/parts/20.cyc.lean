/-! Cycles, purely: walks by layers, the least closed walk, and that a least one meets nobody twice. -/
def jE8 (f : Nat → Bool) : Bool := (List.range 8).any f
theorem jE8_iff {f : Nat → Bool} : jE8 f = true ↔ ∃ u, u < 8 ∧ f u = true := by simp [jE8]
theorem jE8_ext {f h : Nat → Bool} (e : ∀ u, u < 8 → f u = h u) : jE8 f = jE8 h := by
  rw [Bool.eq_iff_iff, jE8_iff, jE8_iff]
  exact ⟨fun ⟨u, h1, h2⟩ => ⟨u, h1, by rw [← e u h1]; exact h2⟩, fun ⟨u, h1, h2⟩ => ⟨u, h1, by rw [e u h1]; exact h2⟩⟩
def jpd (P : Nat → Nat → Bool) (g : Nat) : Nat → Nat → Bool
  | 0, t => decide (t = g)
  | k + 1, t => jE8 (fun u => P t u && jpd P g k u)
def jow (P M : Nat → Nat → Bool) (g : Nat) : Nat → Nat → Bool
  | 0, _ => false
  | k + 1, t => jE8 (fun u => P t u && jow P M g k u) || jE8 (fun u => M t u && jpd P g k u)
/-- the next place in a row of n -/
def jnx (n i : Nat) : Nat := if i + 1 = n then 0 else i + 1
def jcy (nd : Bool) (P M : Nat → Nat → Bool) (n : Nat) (r : Nat → Nat) : Prop :=
  (∀ i, i < n → r i < 8) ∧ (if nd then ∃ m, m < n ∧ M (r m) (r (jnx n m)) = true ∧ ∀ i, i < n → i ≠ m → P (r i) (r (jnx n i)) = true else ∀ i, i < n → P (r i) (r (jnx n i)) = true)
/-- the row, closed: place n is place 0 -/
def jcl (n : Nat) (r : Nat → Nat) : Nat → Nat := fun i => if i = n then r 0 else r i
theorem jcl_nx {n : Nat} {r : Nat → Nat} {i : Nat} (h : i < n) : jcl n r (i + 1) = r (jnx n i) := by
  unfold jcl jnx
  by_cases e : i + 1 = n <;> simp [e]
theorem jcl_in {n : Nat} {r : Nat → Nat} {i : Nat} (h : i < n) : jcl n r i = r i := by
  unfold jcl
  rw [if_neg (by omega)]
/-- a stretch of plain edges leads to the goal -/
theorem jpd_of {P : Nat → Nat → Bool} {g : Nat} (c : Nat → Nat) : ∀ (k a : Nat), (∀ i, a ≤ i → i < a + k → P (c i) (c (i + 1)) = true) → (∀ i, a < i → i ≤ a + k → c i < 8) → c (a + k) = g → jpd P g k (c a) = true := by
  intro k
  induction k with
  | zero => intro a _ _ h; simpa [jpd] using h
  | succ k ih =>
    intro a h1 h2 h3
    rw [jpd, jE8_iff]
    refine ⟨c (a + 1), h2 _ (by omega) (by omega), ?_⟩
    rw [Bool.and_eq_true]
    refine ⟨h1 a (by omega) (by omega), ih (a + 1) (fun i hi hi2 => h1 i (by omega) (by omega)) (fun i hi hi2 => h2 i (by omega) (by omega)) (by rw [show a + 1 + k = a + (k + 1) by omega]; exact h3)⟩
theorem jow_of {P M : Nat → Nat → Bool} {g : Nat} (c : Nat → Nat) : ∀ (k a m : Nat), a ≤ m → m < a + k → M (c m) (c (m + 1)) = true → (∀ i, a ≤ i → i < a + k → i ≠ m → P (c i) (c (i + 1)) = true) → (∀ i, a < i → i ≤ a + k → c i < 8) → c (a + k) = g → jow P M g k (c a) = true := by
  intro k
  induction k with
  | zero => intro a m h1 h2; omega
  | succ k ih =>
    intro a m h1 h2 h3 h4 h5 h6
    rw [jow, Bool.or_eq_true]
    by_cases e : a = m
    · right
      subst e
      rw [jE8_iff]
      refine ⟨c (a + 1), h5 _ (by omega) (by omega), ?_⟩
      rw [Bool.and_eq_true]
      exact ⟨h3, jpd_of c k (a + 1) (fun i hi hi2 => h4 i (by omega) (by omega) (by omega)) (fun i hi hi2 => h5 i (by omega) (by omega)) (by rw [show a + 1 + k = a + (k + 1) by omega]; exact h6)⟩
    · left
      rw [jE8_iff]
      refine ⟨c (a + 1), h5 _ (by omega) (by omega), ?_⟩
      rw [Bool.and_eq_true]
      exact ⟨h4 a (by omega) (by omega) e, ih (a + 1) m (by omega) (by omega) h3 (fun i hi hi2 hi3 => h4 i (by omega) (by omega) hi3) (fun i hi hi2 => h5 i (by omega) (by omega)) (by rw [show a + 1 + k = a + (k + 1) by omega]; exact h6)⟩
/-- and back: what the layers say comes from a row -/
theorem jpd_row {P : Nat → Nat → Bool} {g : Nat} : ∀ (k t : Nat), jpd P g k t = true → ∃ c : Nat → Nat, c 0 = t ∧ c k = g ∧ (∀ i, 0 < i → i ≤ k → c i < 8) ∧ ∀ i, i < k → P (c i) (c (i + 1)) = true := by
  intro k
  induction k with
  | zero =>
    intro t h
    have h : t = g := by simpa [jpd] using h
    exact ⟨fun _ => t, rfl, h, fun i h1 h2 => by omega, fun i h => by omega⟩
  | succ k ih =>
    intro t h
    rw [jpd, jE8_iff] at h
    obtain ⟨u, hu, h⟩ := h
    rw [Bool.and_eq_true] at h
    obtain ⟨c, c0, ck, c8, cP⟩ := ih u h.2
    refine ⟨fun i => if i = 0 then t else c (i - 1), by simp, by simp [ck], fun i h1 h2 => ?_, fun i hi => ?_⟩
    · simp only [if_neg (show ¬ i = 0 by omega)]
      by_cases e : i = 1
      · subst e; simp [c0, hu]
      · exact c8 _ (by omega) (by omega)
    · by_cases e : i = 0
      · subst e; simpa [c0] using h.1
      · have := cP (i - 1) (by omega)
        rw [show i - 1 + 1 = i by omega] at this
        simpa [e] using this
theorem jow_row {P M : Nat → Nat → Bool} {g : Nat} : ∀ (k t : Nat), jow P M g k t = true → ∃ (c : Nat → Nat) (m : Nat), c 0 = t ∧ c k = g ∧ (∀ i, 0 < i → i ≤ k → c i < 8) ∧ m < k ∧ M (c m) (c (m + 1)) = true ∧ ∀ i, i < k → i ≠ m → P (c i) (c (i + 1)) = true := by
  intro k
  induction k with
  | zero => intro t h; simp [jow] at h
  | succ k ih =>
    intro t h
    rw [jow, Bool.or_eq_true, jE8_iff, jE8_iff] at h
    rcases h with ⟨u, hu, h⟩ | ⟨u, hu, h⟩
    · rw [Bool.and_eq_true] at h
      obtain ⟨c, m, c0, ck, c8, hm, cM, cP⟩ := ih u h.2
      refine ⟨fun i => if i = 0 then t else c (i - 1), m + 1, by simp, by simp [ck], fun i h1 h2 => ?_, by omega, by simpa using cM, fun i hi hne => ?_⟩
      · simp only [if_neg (show ¬ i = 0 by omega)]
        by_cases e : i = 1
        · subst e; simp [c0, hu]
        · exact c8 _ (by omega) (by omega)
      · by_cases e : i = 0
        · subst e; simpa [c0] using h.1
        · have := cP (i - 1) (by omega) (by omega)
          rw [show i - 1 + 1 = i by omega] at this
          simpa [e] using this
    · rw [Bool.and_eq_true] at h
      obtain ⟨c, c0, ck, c8, cP⟩ := jpd_row k u h.2
      refine ⟨fun i => if i = 0 then t else c (i - 1), 0, by simp, by simp [ck], fun i h1 h2 => ?_, by omega, by simpa [c0] using h.1, fun i hi hne => ?_⟩
      · simp only [if_neg (show ¬ i = 0 by omega)]
        by_cases e : i = 1
        · subst e; simp [c0, hu]
        · exact c8 _ (by omega) (by omega)
      · have := cP (i - 1) (by omega)
        rw [show i - 1 + 1 = i by omega] at this
        simpa [hne] using this
/-- the layers of a kind -/
def jwk (nd : Bool) (P M : Nat → Nat → Bool) (g k t : Nat) : Bool := if nd then jow P M g k t else jpd P g k t
/-- a closed row is a walk from its first place home -/
theorem jcy_wk {nd : Bool} {P M : Nat → Nat → Bool} {n : Nat} {r : Nat → Nat} (hn : 0 < n) (h : jcy nd P M n r) : jwk nd P M (r 0) n (r 0) = true := by
  obtain ⟨h8, h⟩ := h
  have hc8 : ∀ i, 0 < i → i ≤ 0 + n → jcl n r i < 8 := by
    intro i h1 h2
    unfold jcl
    by_cases e : i = n
    · rw [if_pos e]; exact h8 0 hn
    · rw [if_neg e]; exact h8 i (by omega)
  have h0 : jcl n r 0 = r 0 := jcl_in hn
  have hl : jcl n r (0 + n) = r 0 := by simp [jcl]
  unfold jwk
  cases nd with
  | true =>
    simp only [if_true] at h ⊢
    obtain ⟨m, hm, hM, hP⟩ := h
    have := jow_of (P := P) (M := M) (g := r 0) (jcl n r) n 0 m (by omega) (by omega) (by rw [jcl_in hm, jcl_nx hm]; exact hM) (fun i _ hi hne => by rw [jcl_in (by omega), jcl_nx (by omega)]; exact hP i (by omega) hne) hc8 hl
    rwa [h0] at this
  | false =>
    simp only [Bool.false_eq_true, if_false] at h ⊢
    have := jpd_of (P := P) (g := r 0) (jcl n r) n 0 (fun i _ hi => by rw [jcl_in (by omega), jcl_nx (by omega)]; exact h i (by omega)) hc8 hl
    rwa [h0] at this
theorem jwk_cy {nd : Bool} {P M : Nat → Nat → Bool} {n t : Nat} (hn : 0 < n) (ht : t < 8) (h : jwk nd P M t n t = true) : ∃ r, jcy nd P M n r ∧ r 0 = t := by
  have fin : ∀ c : Nat → Nat, c 0 = t → c n = t → (∀ i, 0 < i → i ≤ n → c i < 8) → (∀ i, i < n → c i < 8) ∧ ∀ i, i < n → c (jnx n i) = c (i + 1) := by
    intro c c0 cn c8
    refine ⟨fun i hi => ?_, fun i hi => ?_⟩
    · by_cases e : i = 0
      · rw [e, c0]; exact ht
      · exact c8 i (by omega) (by omega)
    · unfold jnx
      by_cases e : i + 1 = n
      · rw [if_pos e, c0, e, cn]
      · rw [if_neg e]
  unfold jwk at h
  cases nd with
  | true =>
    simp only [if_true] at h
    obtain ⟨c, m, c0, cn, c8, hm, cM, cP⟩ := jow_row n t h
    obtain ⟨f1, f2⟩ := fin c c0 cn c8
    exact ⟨c, ⟨f1, by simp only [if_true]; exact ⟨m, hm, by rw [f2 m hm]; exact cM, fun i hi hne => by rw [f2 i hi]; exact cP i hi hne⟩⟩, c0⟩
  | false =>
    simp only [Bool.false_eq_true, if_false] at h
    obtain ⟨c, c0, cn, c8, cP⟩ := jpd_row n t h
    obtain ⟨f1, f2⟩ := fin c c0 cn c8
    exact ⟨c, ⟨f1, by simp only [Bool.false_eq_true, if_false]; exact fun i hi => by rw [f2 i hi]; exact cP i hi⟩, c0⟩
/-- closed sequences: place n is place 0 -/
def jcq (nd : Bool) (P M : Nat → Nat → Bool) (n : Nat) (c : Nat → Nat) : Prop :=
  c n = c 0 ∧ (∀ i, i ≤ n → c i < 8) ∧ (if nd then ∃ m, m < n ∧ M (c m) (c (m + 1)) = true ∧ ∀ i, i < n → i ≠ m → P (c i) (c (i + 1)) = true else ∀ i, i < n → P (c i) (c (i + 1)) = true)
theorem jcy_q {nd : Bool} {P M : Nat → Nat → Bool} {n : Nat} {r : Nat → Nat} (hn : 0 < n) (h : jcy nd P M n r) : jcq nd P M n (jcl n r) := by
  obtain ⟨h8, h⟩ := h
  refine ⟨by rw [jcl_in hn]; simp [jcl], fun i hi => ?_, ?_⟩
  · unfold jcl
    by_cases e : i = n
    · rw [if_pos e]; exact h8 0 hn
    · rw [if_neg e]; exact h8 i (by omega)
  · cases nd with
    | true =>
      simp only [if_true] at h ⊢
      obtain ⟨m, hm, hM, hP⟩ := h
      exact ⟨m, hm, by rw [jcl_in hm, jcl_nx hm]; exact hM, fun i hi hne => by rw [jcl_in hi, jcl_nx hi]; exact hP i hi hne⟩
    | false =>
      simp only [Bool.false_eq_true, if_false] at h ⊢
      exact fun i hi => by rw [jcl_in hi, jcl_nx hi]; exact h i hi
theorem jcq_nx {n : Nat} {c : Nat → Nat} (hc : c n = c 0) {i : Nat} (_hi : i < n) : c (jnx n i) = c (i + 1) := by
  unfold jnx
  by_cases e : i + 1 = n
  · rw [if_pos e, e, hc]
  · rw [if_neg e]
theorem jcq_y {nd : Bool} {P M : Nat → Nat → Bool} {n : Nat} {c : Nat → Nat} (h : jcq nd P M n c) : jcy nd P M n c := by
  obtain ⟨hc, h8, h⟩ := h
  refine ⟨fun i hi => h8 i (by omega), ?_⟩
  cases nd with
  | true =>
    simp only [if_true] at h ⊢
    obtain ⟨m, hm, hM, hP⟩ := h
    exact ⟨m, hm, by rw [jcq_nx hc hm]; exact hM, fun i hi hne => by rw [jcq_nx hc hi]; exact hP i hi hne⟩
  | false =>
    simp only [Bool.false_eq_true, if_false] at h ⊢
    exact fun i hi => by rw [jcq_nx hc hi]; exact h i hi
/-- a closed sequence that meets somebody twice holds a shorter one of its kind -/
theorem jcq_split {nd : Bool} {P M : Nat → Nat → Bool} {n : Nat} {c : Nat → Nat} (h : jcq nd P M n c) {i j : Nat} (hij : i < j) (hj : j < n) (he : c i = c j) : ∃ n' c', 0 < n' ∧ n' < n ∧ jcq nd P M n' c' := by
  obtain ⟨hc, h8, h⟩ := h
  have inner : ∀ Q : Nat → Nat → Bool, ∀ a, a < j - i → Q (c (i + a)) (c (i + (a + 1))) = Q (c (i + a)) (c (i + a + 1)) := fun Q a _ => by rw [Nat.add_assoc]
  -- the outer one
  have o1 : ∀ a, a ≤ i → (fun a => if a ≤ i then c a else c (a + (j - i))) a = c a := fun a ha => if_pos ha
  have o2 : ∀ a, i ≤ a → (fun a => if a ≤ i then c a else c (a + (j - i))) a = c (a + (j - i)) := by
    intro a ha
    by_cases e : a = i
    · subst e
      show (if a ≤ a then c a else _) = _
      rw [if_pos (Nat.le_refl _), he]
      congr 1; omega
    · show (if a ≤ i then c a else _) = _
      rw [if_neg (by omega)]
  have oN : (fun a => if a ≤ i then c a else c (a + (j - i))) (n - (j - i)) = (fun a => if a ≤ i then c a else c (a + (j - i))) 0 := by
    rw [o2 _ (by omega), o1 0 (by omega), ← hc]
    congr 1; omega
  have o8 : ∀ a, a ≤ n - (j - i) → (fun a => if a ≤ i then c a else c (a + (j - i))) a < 8 := by
    intro a ha
    rcases Nat.le_total a i with h1 | h1
    · rw [o1 a h1]; exact h8 a (by omega)
    · rw [o2 a h1]; exact h8 _ (by omega)
  have oE : ∀ a, a < n - (j - i) → ∃ b, b < n ∧ (b < i ∨ j ≤ b) ∧ b = (if a < i then a else a + (j - i)) ∧ (fun a => if a ≤ i then c a else c (a + (j - i))) a = c b ∧ (fun a => if a ≤ i then c a else c (a + (j - i))) (a + 1) = c (b + 1) := by
    intro a ha
    by_cases h1 : a < i
    · exact ⟨a, by omega, Or.inl h1, by rw [if_pos h1], o1 a (by omega), o1 (a + 1) (by omega)⟩
    · refine ⟨a + (j - i), by omega, Or.inr (by omega), by rw [if_neg h1], o2 a (by omega), ?_⟩
      rw [o2 (a + 1) (by omega)]
      congr 1; omega
  cases nd with
  | false =>
    simp only [Bool.false_eq_true, if_false] at h
    refine ⟨j - i, fun a => c (i + a), by omega, by omega, ?_, fun a ha => h8 _ (by omega), ?_⟩
    · show c (i + (j - i)) = c (i + 0)
      rw [show i + (j - i) = j by omega, Nat.add_zero, he]
    · simp only [Bool.false_eq_true, if_false]
      exact fun a ha => h (i + a) (by omega)
  | true =>
    simp only [if_true] at h
    obtain ⟨m, hm, hM, hP⟩ := h
    by_cases hin : i ≤ m ∧ m < j
    · refine ⟨j - i, fun a => c (i + a), by omega, by omega, ?_, fun a ha => h8 _ (by omega), ?_⟩
      · show c (i + (j - i)) = c (i + 0)
        rw [show i + (j - i) = j by omega, Nat.add_zero, he]
      · simp only [if_true]
        refine ⟨m - i, by omega, ?_, fun a ha hne => hP (i + a) (by omega) (by omega)⟩
        rw [show i + (m - i) = m by omega, show i + (m - i + 1) = m + 1 by omega]
        exact hM
    · refine ⟨n - (j - i), fun a => if a ≤ i then c a else c (a + (j - i)), by omega, by omega, oN, o8, ?_⟩
      simp only [if_true]
      have hm' : (if m < i then m else m - (j - i)) < n - (j - i) := by
        by_cases h1 : m < i
        · rw [if_pos h1]; omega
        · rw [if_neg h1]; omega
      refine ⟨if m < i then m else m - (j - i), hm', ?_, fun a ha hne => ?_⟩
      · obtain ⟨b, hb, -, e0, e1, e2⟩ := oE _ hm'
        have hbm : b = m := by
          rw [e0]
          by_cases h1 : m < i
          · simp only [if_pos h1]
          · simp only [if_neg h1]
            rw [if_neg (by omega)]; omega
        dsimp only at e1 e2 ⊢
        rw [e1, e2, hbm]; exact hM
      · obtain ⟨b, hb, -, e0, e1, e2⟩ := oE a ha
        dsimp only at e1 e2 ⊢
        rw [e1, e2]
        refine hP b hb (fun q => hne ?_)
        rw [← q, e0]
        by_cases h1 : a < i
        · simp only [if_pos h1]
        · simp only [if_neg h1]
          rw [if_neg (by omega)]; omega
/-- begun elsewhere -/
theorem jcq_rot {nd : Bool} {P M : Nat → Nat → Bool} {n : Nat} {c : Nat → Nat} (h : jcq nd P M n c) {k : Nat} (hk : k < n) : ∃ c', jcq nd P M n c' ∧ c' 0 = c k := by
  obtain ⟨hc, h8, h⟩ := h
  refine ⟨fun a => if a + k < n then c (a + k) else c (a + k - n), ⟨?_, fun a ha => ?_, ?_⟩, ?_⟩
  · show (if n + k < n then _ else c (n + k - n)) = (if 0 + k < n then c (0 + k) else _)
    rw [if_neg (by omega), if_pos (by omega)]
    congr 1; omega
  · show (if a + k < n then c (a + k) else c (a + k - n)) < 8
    split
    · exact h8 _ (by omega)
    · exact h8 _ (by omega)
  · have ed : ∀ a, a < n → ∃ b, b < n ∧ b = (if a + k < n then a + k else a + k - n) ∧ (if a + k < n then c (a + k) else c (a + k - n)) = c b ∧ (if a + 1 + k < n then c (a + 1 + k) else c (a + 1 + k - n)) = c (b + 1) := by
      intro a ha
      by_cases h1 : a + k < n
      · refine ⟨a + k, h1, by rw [if_pos h1], by rw [if_pos h1], ?_⟩
        by_cases h2 : a + 1 + k < n
        · rw [if_pos h2]; congr 1; omega
        · rw [if_neg h2, show a + 1 + k - n = 0 by omega, ← hc]; congr 1; omega
      · refine ⟨a + k - n, by omega, by rw [if_neg h1], by rw [if_neg h1], ?_⟩
        rw [if_neg (by omega)]; congr 1; omega
    cases nd with
    | false =>
      simp only [Bool.false_eq_true, if_false] at h ⊢
      intro a ha
      obtain ⟨b, hb, -, e1, e2⟩ := ed a ha
      rw [e1, e2]; exact h b hb
    | true =>
      simp only [if_true] at h ⊢
      obtain ⟨m, hm, hM, hP⟩ := h
      have hm' : (if k ≤ m then m - k else m + n - k) < n := by
        by_cases h1 : k ≤ m
        · rw [if_pos h1]; omega
        · rw [if_neg h1]; omega
      refine ⟨if k ≤ m then m - k else m + n - k, hm', ?_, fun a ha hne => ?_⟩
      · obtain ⟨b, hb, e0, e1, e2⟩ := ed _ hm'
        have hbm : b = m := by
          rw [e0]
          by_cases h1 : k ≤ m
          · simp only [if_pos h1]; rw [if_pos (by omega)]; omega
          · simp only [if_neg h1]; rw [if_neg (by omega)]; omega
        rw [e1, e2, hbm]; exact hM
      · obtain ⟨b, hb, e0, e1, e2⟩ := ed a ha
        rw [e1, e2]
        refine hP b hb (fun q => hne ?_)
        rw [← q, e0]
        by_cases h1 : a + k < n
        · simp only [if_pos h1]; rw [if_pos (by omega)]; omega
        · simp only [if_neg h1]; rw [if_neg (by omega)]; omega
  · show (if 0 + k < n then c (0 + k) else _) = c k
    rw [if_pos (by omega), Nat.zero_add]
/-- row a comes no later than row b -/
def jlx (n : Nat) (a b : Nat → Nat) : Prop := ∀ k, k < n → (∀ i, i < k → a i = b i) → a k ≤ b k
theorem jlx_anti {n : Nat} {a b : Nat → Nat} (h1 : jlx n a b) (h2 : jlx n b a) : ∀ i, i < n → a i = b i := by
  intro i
  induction i using Nat.strongRecOn with
  | ind i ih =>
    intro hi
    have e : ∀ k, k < i → a k = b k := fun k hk => ih k hk (by omega)
    exact Nat.le_antisymm (h1 i hi e) (h2 i hi (fun k hk => (e k hk).symm))
/-- the least of the shortest -/
def jmn (C : Nat → (Nat → Nat) → Prop) (n : Nat) (r : Nat → Nat) : Prop := 2 ≤ n ∧ n ≤ 8 ∧ C n r ∧ (∀ n' r', 2 ≤ n' → n' < n → ¬ C n' r') ∧ ∀ r', C n r' → jlx n r r'
/-- a cycle as the document has it: nobody twice, the least first -/
def jsc (nd : Bool) (P M : Nat → Nat → Bool) (n : Nat) (r : Nat → Nat) : Prop := jcy nd P M n r ∧ (∀ i j, i < n → j < n → r i = r j → i = j) ∧ ∀ i, 0 < i → i < n → r 0 < r i
theorem jcy_simple {nd : Bool} {P M : Nat → Nat → Bool} (hP : ∀ t, P t t = false) (hM : ∀ t, M t t = false) {n : Nat} {r : Nat → Nat} (h : jmn (jcy nd P M) n r) : jsc nd P M n r := by
  obtain ⟨h2, h8, hc, hs, hl⟩ := h
  have inj : ∀ i j, i < j → j < n → r i ≠ r j := by
    intro i j hij hj he
    obtain ⟨n', c', h0, hn', hq⟩ := jcq_split (jcy_q (by omega) hc) hij hj (by rw [jcl_in (by omega), jcl_in hj]; exact he)
    by_cases h1 : n' = 1
    · subst h1
      obtain ⟨hq1, -, hq3⟩ := hq
      cases nd with
      | true =>
        simp only [if_true] at hq3
        obtain ⟨m, hm, hMm, -⟩ := hq3
        have : m = 0 := by omega
        subst this
        rw [show (0 + 1 : Nat) = 1 from rfl, hq1, hM] at hMm
        cases hMm
      | false =>
        simp only [Bool.false_eq_true, if_false] at hq3
        have := hq3 0 (by omega)
        rw [show (0 + 1 : Nat) = 1 from rfl, hq1, hP] at this
        cases this
    · exact hs n' c' (by omega) hn' (jcq_y hq)
  refine ⟨hc, fun i j hi hj he => ?_, fun i h0 hi => ?_⟩
  · rcases Nat.lt_trichotomy i j with h | h | h
    · exact absurd he (inj i j h hj)
    · exact h
    · exact absurd he.symm (inj j i h hi)
  · obtain ⟨c', hq, e⟩ := jcq_rot (jcy_q (by omega) hc) hi
    rw [jcl_in hi] at e
    have := hl c' (jcq_y hq) 0 (by omega) (fun i hi => by omega)
    rw [e] at this
    have hne := inj 0 i h0 hi
    omega
/-- the least closed walk and the least cycle are one -/
theorem jmn_same {nd : Bool} {P M : Nat → Nat → Bool} (hP : ∀ t, P t t = false) (hM : ∀ t, M t t = false) {n n2 : Nat} {r r2 : Nat → Nat} (h : jmn (jcy nd P M) n r) (h2 : jmn (jsc nd P M) n2 r2) : n = n2 ∧ ∀ i, i < n → r i = r2 i := by
  have hs := jcy_simple hP hM h
  have e : n = n2 := by
    rcases Nat.lt_trichotomy n n2 with q | q | q
    · exact absurd hs (h2.2.2.2.1 n r h.1 q)
    · exact q
    · exact absurd h2.2.2.1.1 (h.2.2.2.1 n2 r2 h2.1 q)
  subst e
  exact ⟨rfl, jlx_anti (h.2.2.2.2 r2 h2.2.2.1.1) (h2.2.2.2.2 r hs)⟩
theorem jmn_none {nd : Bool} {P M : Nat → Nat → Bool} {n : Nat} {r : Nat → Nat} (h : ∀ n' r', 2 ≤ n' → n' ≤ 8 → ¬ jcy nd P M n' r') : ¬ jmn (jsc nd P M) n r := fun q => h n r q.1 q.2.1 q.2.2.1.1
