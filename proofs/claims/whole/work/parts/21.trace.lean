/-! The search for a cycle, purely: the shortest of each, the first of the shortest, the row that is laid step by step. -/
def jsp (w : Nat → Bool) (s : Nat) : Prop := (s = 0 ∧ ∀ k, 2 ≤ k → k ≤ 8 → w k = false) ∨ (2 ≤ s ∧ s ≤ 8 ∧ w s = true ∧ ∀ k, 2 ≤ k → k < s → w k = false)
/-- behind the first t of them: the shortest so far and whose it is -/
def jfd (s : Nat → Nat) (t len first : Nat) : Prop := (len = 0 ∧ ∀ u, u < t → s u = 0) ∨ (len ≠ 0 ∧ first < t ∧ s first = len ∧ ∀ u, u < t → s u = 0 ∨ len < s u ∨ (len = s u ∧ first ≤ u))
theorem jfd_0 {s : Nat → Nat} : jfd s 0 0 0 := Or.inl ⟨rfl, fun u h => by omega⟩
theorem jfd_take {s : Nat → Nat} {t len first : Nat} (h : jfd s t len first) (h1 : s t ≠ 0) (h2 : len = 0 ∨ s t < len) : jfd s (t + 1) (s t) t := by
  refine Or.inr ⟨h1, by omega, rfl, fun u hu => ?_⟩
  by_cases e : u = t
  · subst e; exact Or.inr (Or.inr ⟨rfl, Nat.le_refl _⟩)
  · rcases h with ⟨h0, h⟩ | ⟨h0, h3, h4, h⟩
    · exact Or.inl (h u (by omega))
    · rcases h u (by omega) with q | q | q
      · exact Or.inl q
      · exact Or.inr (Or.inl (by omega))
      · exact Or.inr (Or.inl (by omega))
theorem jfd_leave {s : Nat → Nat} {t len first : Nat} (h : jfd s t len first) (h1 : ¬ (s t ≠ 0 ∧ (len = 0 ∨ s t < len))) : jfd s (t + 1) len first := by
  rcases h with ⟨h0, h⟩ | ⟨h0, h3, h4, h⟩
  · refine Or.inl ⟨h0, fun u hu => ?_⟩
    by_cases e : u = t
    · subst e
      by_cases z : s u = 0
      · exact z
      · exact absurd ⟨z, Or.inl h0⟩ h1
    · exact h u (by omega)
  · refine Or.inr ⟨h0, by omega, h4, fun u hu => ?_⟩
    by_cases e : u = t
    · subst e
      by_cases z : s u = 0
      · exact Or.inl z
      · by_cases z2 : s u < len
        · exact absurd ⟨z, Or.inr z2⟩ h1
        · by_cases z3 : len = s u
          · exact Or.inr (Or.inr ⟨z3, by omega⟩)
          · exact Or.inr (Or.inl (by omega))
    · exact h u (by omega)
/-- the row so far: i + 1 places laid, whether the mark may still be owing, whether it may be paid -/
def jti (nd : Bool) (P M : Nat → Nat → Bool) (n i : Nat) (row : Nat → Nat) (mo mp : Bool) : Prop :=
  i < n ∧ (∀ k, k ≤ i → row k < 8) ∧ (mo = true ↔ nd = true ∧ (∀ k, k < i → P (row k) (row (k + 1)) = true) ∧ jow P M (row 0) (n - i) (row i) = true) ∧
  (mp = true ↔ (if nd then ∃ m, m < i ∧ M (row m) (row (m + 1)) = true ∧ ∀ k, k < i → k ≠ m → P (row k) (row (k + 1)) = true else ∀ k, k < i → P (row k) (row (k + 1)) = true) ∧ jpd P (row 0) (n - i) (row i) = true) ∧
  (mo = true ∨ mp = true) ∧ ∀ r, jcy nd P M n r → r 0 = row 0 → ∀ k, k ≤ i → (∀ j, j < k → row j = r j) → row k ≤ r k
theorem jti_0 {nd : Bool} {P M : Nat → Nat → Bool} {n t : Nat} (hn : 0 < n) (ht : t < 8) (h : jwk nd P M t n t = true) {row : Nat → Nat} (hr : row 0 = t) : jti nd P M n 0 row nd (!nd) := by
  subst hr
  unfold jwk at h
  refine ⟨hn, fun k hk => by rw [show k = 0 by omega]; exact ht, ?_, ?_, ?_, fun r _ h0 k hk _ => by rw [show k = 0 by omega, h0]; exact Nat.le_refl _⟩
  · cases nd with
    | true => simp only [if_true] at h; exact ⟨fun _ => ⟨rfl, fun k hk => by omega, h⟩, fun _ => rfl⟩
    | false => exact ⟨fun q => (by cases q), fun q => (by cases q.1)⟩
  · cases nd with
    | true => exact ⟨fun q => (by cases q), fun q => (by simp only [if_true] at q; obtain ⟨⟨m, hm, -⟩, -⟩ := q; omega)⟩
    | false => simp only [Bool.false_eq_true, if_false] at h ⊢; exact ⟨fun _ => ⟨fun k hk => by omega, h⟩, fun _ => rfl⟩
  · cases nd <;> simp
/-- what may stand next -/
def jso (P M : Nat → Nat → Bool) (g left from_ : Nat) (mo : Bool) (u : Nat) : Bool := mo && (P from_ u && jow P M g left u)
def jnp (P M : Nat → Nat → Bool) (g left from_ : Nat) (mo : Bool) (u : Nat) : Bool := mo && (M from_ u && jpd P g left u)
def jsq (P : Nat → Nat → Bool) (g left from_ : Nat) (mp : Bool) (u : Nat) : Bool := mp && (P from_ u && jpd P g left u)
def jal (P M : Nat → Nat → Bool) (g left from_ : Nat) (mo mp : Bool) (u : Nat) : Bool := (jso P M g left from_ mo u || jnp P M g left from_ mo u) || jsq P g left from_ mp u
theorem jti_some {nd : Bool} {P M : Nat → Nat → Bool} {n i : Nat} {row : Nat → Nat} {mo mp : Bool} (h : jti nd P M n i row mo mp) (hi : i + 1 < n) : ∃ u, u < 8 ∧ jal P M (row 0) (n - (i + 1)) (row i) mo mp u = true := by
  obtain ⟨-, -, h1, h2, h3, -⟩ := h
  have e : n - i = (n - (i + 1)) + 1 := by omega
  rcases h3 with q | q
  · have := (h1.mp q).2.2
    rw [e, jow, Bool.or_eq_true, jE8_iff, jE8_iff] at this
    rcases this with ⟨u, hu, z⟩ | ⟨u, hu, z⟩
    · exact ⟨u, hu, by simp [jal, jso, q, z]⟩
    · exact ⟨u, hu, by simp [jal, jnp, q, z]⟩
  · have := (h2.mp q).2
    rw [e, jpd, jE8_iff] at this
    obtain ⟨u, hu, z⟩ := this
    exact ⟨u, hu, by simp [jal, jsq, q, z]⟩
theorem jti_step {nd : Bool} {P M : Nat → Nat → Bool} {n i : Nat} {row row' : Nat → Nat} {mo mp : Bool} (h : jti nd P M n i row mo mp) (hi : i + 1 < n) {x : Nat} (hx : x < 8) (hall : jal P M (row 0) (n - (i + 1)) (row i) mo mp x = true) (hlst : ∀ u, u < x → jal P M (row 0) (n - (i + 1)) (row i) mo mp u = false)
    (hrow : ∀ k, k ≤ i → row' k = row k) (hnew : row' (i + 1) = x) : jti nd P M n (i + 1) row' (jso P M (row 0) (n - (i + 1)) (row i) mo x) (jnp P M (row 0) (n - (i + 1)) (row i) mo x || jsq P (row 0) (n - (i + 1)) (row i) mp x) := by
  obtain ⟨-, g1, g2, g3, g4, g5⟩ := h
  have r0 : row' 0 = row 0 := hrow 0 (by omega)
  have ri : row' i = row i := hrow i (Nat.le_refl _)
  have ed : ∀ (Q : Nat → Nat → Bool) (k : Nat), k < i → Q (row' k) (row' (k + 1)) = Q (row k) (row (k + 1)) := fun Q k hk => by rw [hrow k (by omega), hrow (k + 1) (by omega)]
  have e : n - i = (n - (i + 1)) + 1 := by omega
  refine ⟨hi, fun k hk => ?_, ?_, ?_, ?_, ?_⟩
  · by_cases q : k = i + 1
    · rw [q, hnew]; exact hx
    · rw [hrow k (by omega)]; exact g1 k (by omega)
  · rw [r0, hnew]
    constructor
    · intro q
      simp only [jso, Bool.and_eq_true] at q
      obtain ⟨q1, q2, q3⟩ := q
      obtain ⟨z1, z2, -⟩ := g2.mp q1
      refine ⟨z1, fun k hk => ?_, q3⟩
      by_cases w : k = i
      · rw [w, ri, hnew]; exact q2
      · rw [ed P k (by omega)]; exact z2 k (by omega)
    · rintro ⟨z1, z2, z3⟩
      simp only [jso, Bool.and_eq_true]
      have zP : P (row i) x = true := by have := z2 i (by omega); rwa [ri, hnew] at this
      refine ⟨g2.mpr ⟨z1, fun k hk => by rw [← ed P k hk]; exact z2 k (by omega), ?_⟩, zP, z3⟩
      rw [e, jow, Bool.or_eq_true, jE8_iff]
      exact Or.inl ⟨x, hx, by simp [zP, z3]⟩
  · rw [r0, hnew, Bool.or_eq_true]
    constructor
    · rintro (q | q)
      · simp only [jnp, Bool.and_eq_true] at q
        obtain ⟨q1, q2, q3⟩ := q
        obtain ⟨z1, z2, -⟩ := g2.mp q1
        refine ⟨?_, q3⟩
        rw [if_pos z1]
        refine ⟨i, by omega, by rw [ri, hnew]; exact q2, fun k hk hne => ?_⟩
        rw [ed P k (by omega)]; exact z2 k (by omega)
      · simp only [jsq, Bool.and_eq_true] at q
        obtain ⟨q1, q2, q3⟩ := q
        obtain ⟨z1, -⟩ := g3.mp q1
        refine ⟨?_, q3⟩
        cases nd with
        | true =>
          simp only [if_true] at z1 ⊢
          obtain ⟨m, hm, hM, hP⟩ := z1
          refine ⟨m, by omega, by rw [ed M m hm]; exact hM, fun k hk hne => ?_⟩
          by_cases w : k = i
          · rw [w, ri, hnew]; exact q2
          · rw [ed P k (by omega)]; exact hP k (by omega) hne
        | false =>
          simp only [Bool.false_eq_true, if_false] at z1 ⊢
          intro k hk
          by_cases w : k = i
          · rw [w, ri, hnew]; exact q2
          · rw [ed P k (by omega)]; exact z1 k (by omega)
    · rintro ⟨z, z3⟩
      cases nd with
      | true =>
        simp only [if_true] at z
        obtain ⟨m, hm, hM, hP⟩ := z
        by_cases w : m = i
        · left
          subst w
          have zM : M (row m) x = true := by rwa [ri, hnew] at hM
          simp only [jnp, Bool.and_eq_true]
          refine ⟨g2.mpr ⟨rfl, fun k hk => by rw [← ed P k hk]; exact hP k (by omega) (by omega), ?_⟩, zM, z3⟩
          rw [e, jow, Bool.or_eq_true, jE8_iff, jE8_iff]
          exact Or.inr ⟨x, hx, by simp [zM, z3]⟩
        · right
          have zP : P (row i) x = true := by have := hP i (by omega) (by omega); rwa [ri, hnew] at this
          simp only [jsq, Bool.and_eq_true]
          refine ⟨g3.mpr ⟨?_, ?_⟩, zP, z3⟩
          · simp only [if_true]
            exact ⟨m, by omega, by rw [← ed M m (by omega)]; exact hM, fun k hk hne => by rw [← ed P k hk]; exact hP k (by omega) hne⟩
          · rw [e, jpd, jE8_iff]
            exact ⟨x, hx, by simp [zP, z3]⟩
      | false =>
        simp only [Bool.false_eq_true, if_false] at z
        right
        have zP : P (row i) x = true := by have := z i (by omega); rwa [ri, hnew] at this
        simp only [jsq, Bool.and_eq_true]
        refine ⟨g3.mpr ⟨?_, ?_⟩, zP, z3⟩
        · simp only [Bool.false_eq_true, if_false]
          exact fun k hk => by rw [← ed P k hk]; exact z k (by omega)
        · rw [e, jpd, jE8_iff]
          exact ⟨x, hx, by simp [zP, z3]⟩
  · unfold jal at hall
    rw [Bool.or_eq_true, Bool.or_eq_true] at hall
    rcases hall with (q | q) | q
    · exact Or.inl q
    · exact Or.inr (by rw [q]; rfl)
    · exact Or.inr (by rw [q, Bool.or_true])
  · intro r hr hr0 k hk hag
    by_cases w : k = i + 1
    · subst w
      rw [hnew]
      have ag : ∀ j, j ≤ i → r j = row j := fun j hj => by rw [← hag j (by omega), hrow j hj]
      refine Nat.le_of_not_lt (fun hlt => ?_)
      have hf := hlst _ hlt
      have hc := jcy_q (n := n) (by omega) hr
      obtain ⟨cN, c8, hc⟩ := hc
      have cin : ∀ j, j < n → jcl n r j = r j := fun j hj => jcl_in hj
      have c0 : jcl n r 0 = row 0 := by rw [cin 0 (by omega), hr0, r0]
      have cl : jcl n r (i + 1 + (n - (i + 1))) = row 0 := by rw [show i + 1 + (n - (i + 1)) = n by omega, cN, c0]
      have cx : jcl n r (i + 1) = r (i + 1) := cin _ (by omega)
      have ci : jcl n r i = row i := by rw [cin i (by omega), ag i (by omega)]
      have edc : ∀ (Q : Nat → Nat → Bool) (k : Nat), k < i → Q (jcl n r k) (jcl n r (k + 1)) = Q (row k) (row (k + 1)) := fun Q k hk => by rw [cin k (by omega), cin (k + 1) (by omega), ag k (by omega), ag (k + 1) (by omega)]
      have c8' : ∀ j, i + 1 < j → j ≤ i + 1 + (n - (i + 1)) → jcl n r j < 8 := fun j _ h2 => c8 j (by omega)
      have xin : r (i + 1) < 8 := by rw [← cx]; exact c8 _ (by omega)
      cases nd with
      | true =>
        simp only [if_true] at hc
        obtain ⟨m, hm, hM, hP⟩ := hc
        rcases Nat.lt_trichotomy m i with q | q | q
        · have tP : P (row i) (r (i + 1)) = true := by have := hP i (by omega) (by omega); rwa [ci, cx] at this
          have tp := jpd_of (P := P) (g := row 0) (jcl n r) (n - (i + 1)) (i + 1) (fun j h1 h2 => hP j (by omega) (by omega)) c8' cl
          rw [cx] at tp
          have hmp : mp = true := g3.mpr ⟨by simp only [if_true]; exact ⟨m, q, by rw [← edc M m q]; exact hM, fun j hj hne => by rw [← edc P j hj]; exact hP j (by omega) hne⟩, by rw [e, jpd, jE8_iff]; exact ⟨r (i + 1), xin, by simp [tP, tp]⟩⟩
          simp [jal, jsq, hmp, tP, tp] at hf
        · subst q
          have tM : M (row m) (r (m + 1)) = true := by rwa [ci, cx] at hM
          have tp := jpd_of (P := P) (g := row 0) (jcl n r) (n - (m + 1)) (m + 1) (fun j h1 h2 => hP j (by omega) (by omega)) c8' cl
          rw [cx] at tp
          have hmo : mo = true := g2.mpr ⟨rfl, fun j hj => by rw [← edc P j hj]; exact hP j (by omega) (by omega), by rw [e, jow, Bool.or_eq_true, jE8_iff, jE8_iff]; exact Or.inr ⟨r (m + 1), xin, by simp [tM, tp]⟩⟩
          simp [jal, jnp, hmo, tM, tp] at hf
        · have tP : P (row i) (r (i + 1)) = true := by have := hP i (by omega) (by omega); rwa [ci, cx] at this
          have tw := jow_of (P := P) (M := M) (g := row 0) (jcl n r) (n - (i + 1)) (i + 1) m (by omega) (by omega) hM (fun j h1 h2 hne => hP j (by omega) hne) c8' cl
          rw [cx] at tw
          have hmo : mo = true := g2.mpr ⟨rfl, fun j hj => by rw [← edc P j hj]; exact hP j (by omega) (by omega), by rw [e, jow, Bool.or_eq_true, jE8_iff, jE8_iff]; exact Or.inl ⟨r (i + 1), xin, by simp [tP, tw]⟩⟩
          simp [jal, jso, hmo, tP, tw] at hf
      | false =>
        simp only [Bool.false_eq_true, if_false] at hc
        have tP : P (row i) (r (i + 1)) = true := by have := hc i (by omega); rwa [ci, cx] at this
        have tp := jpd_of (P := P) (g := row 0) (jcl n r) (n - (i + 1)) (i + 1) (fun j h1 h2 => hc j (by omega)) c8' cl
        rw [cx] at tp
        have hmp : mp = true := g3.mpr ⟨by simp only [Bool.false_eq_true, if_false]; exact fun j hj => by rw [← edc P j hj]; exact hc j (by omega), by rw [e, jpd, jE8_iff]; exact ⟨r (i + 1), xin, by simp [tP, tp]⟩⟩
        simp [jal, jsq, hmp, tP, tp] at hf
    · rw [hrow k (by omega)]
      exact g5 r hr (by rw [hr0, r0]) k (by omega) (fun j hj => by rw [← hrow j (by omega)]; exact hag j hj)
theorem jti_end {nd : Bool} {P M : Nat → Nat → Bool} {n i : Nat} {row : Nat → Nat} {mo mp : Bool} (h : jti nd P M n i row mo mp) (hi : i + 1 = n) : jcy nd P M n row ∧ ∀ r, jcy nd P M n r → r 0 = row 0 → jlx n row r := by
  obtain ⟨-, g1, g2, g3, g4, g5⟩ := h
  subst hi
  have e : i + 1 - i = 0 + 1 := by omega
  have nxi : jnx (i + 1) i = 0 := by simp [jnx]
  have nxk : ∀ k, k < i → jnx (i + 1) k = k + 1 := fun k hk => by unfold jnx; rw [if_neg (by omega)]
  refine ⟨⟨fun k hk => g1 k (by omega), ?_⟩, fun r hr hr0 k hk hag => g5 r hr hr0 k (by omega) hag⟩
  rcases g4 with q | q
  · obtain ⟨z1, z2, z3⟩ := g2.mp q
    rw [if_pos z1]
    rw [e, jow, Bool.or_eq_true, jE8_iff, jE8_iff] at z3
    rcases z3 with ⟨u, -, z⟩ | ⟨u, -, z⟩
    · simp [jow] at z
    · simp only [jpd, Bool.and_eq_true, decide_eq_true_eq] at z
      refine ⟨i, by omega, by rw [nxi, ← z.2]; exact z.1, fun k hk hne => by rw [nxk k (by omega)]; exact z2 k (by omega)⟩
  · obtain ⟨z1, z2⟩ := g3.mp q
    rw [e, jpd, jE8_iff] at z2
    obtain ⟨u, -, z⟩ := z2
    simp only [jpd, Bool.and_eq_true, decide_eq_true_eq] at z
    have last : P (row i) (row (jnx (i + 1) i)) = true := by rw [nxi, ← z.2]; exact z.1
    cases nd with
    | true =>
      simp only [if_true] at z1 ⊢
      obtain ⟨m, hm, hM, hP⟩ := z1
      refine ⟨m, by omega, by rw [nxk m hm]; exact hM, fun k hk hne => ?_⟩
      by_cases w : k = i
      · rw [w]; exact last
      · rw [nxk k (by omega)]; exact hP k (by omega) hne
    | false =>
      simp only [Bool.false_eq_true, if_false] at z1 ⊢
      intro k hk
      by_cases w : k = i
      · rw [w]; exact last
      · rw [nxk k (by omega)]; exact z1 k (by omega)
/-- what the search has found -/
theorem jfd_none {nd : Bool} {P M : Nat → Nat → Bool} {s : Nat → Nat} {first : Nat} (hs : ∀ t, t < 8 → jsp (fun k => jwk nd P M t k t) (s t)) (h : jfd s 8 0 first) : ∀ n r, 2 ≤ n → n ≤ 8 → ¬ jcy nd P M n r := by
  intro n r h2 h8 hc
  have ht := hc.1 0 (by omega)
  have hw := jcy_wk (by omega) hc
  rcases h with ⟨-, h⟩ | ⟨h, -⟩
  · rcases hs (r 0) ht with ⟨-, q⟩ | ⟨q, -⟩
    · have z := q n h2 h8
      dsimp only at z
      rw [z] at hw; cases hw
    · have := h (r 0) ht; omega
  · exact absurd rfl h
theorem jfd_some {nd : Bool} {P M : Nat → Nat → Bool} {s : Nat → Nat} {len first : Nat} {row : Nat → Nat} {mo mp : Bool} {i : Nat} (hs : ∀ t, t < 8 → jsp (fun k => jwk nd P M t k t) (s t)) (h : jfd s 8 len first) (hl : len ≠ 0) (hr : row 0 = first) (ht : jti nd P M len i row mo mp) (hi : i + 1 = len) : jmn (jcy nd P M) len row := by
  rcases h with ⟨h, -⟩ | ⟨-, h1, h2, h3⟩
  · exact absurd h hl
  · have hlen : 2 ≤ len ∧ len ≤ 8 := by
      rcases hs first h1 with ⟨q, -⟩ | ⟨q1, q2, -⟩
      · omega
      · omega
    obtain ⟨e1, e2⟩ := jti_end ht hi
    refine ⟨hlen.1, hlen.2, e1, fun n' r' g1 g2 hc => ?_, fun r' hc => ?_⟩
    · have ht := hc.1 0 (by omega)
      have hw := jcy_wk (by omega) hc
      rcases hs (r' 0) ht with ⟨q1, q⟩ | ⟨q1, q2, q3, q4⟩
      · have z := q n' g1 (by omega)
        dsimp only at z
        rw [z] at hw; cases hw
      · have hge : len ≤ s (r' 0) := by rcases h3 (r' 0) ht with z | z | z <;> omega
        have := q4 n' g1 (by omega)
        simp only at this
        rw [this] at hw; cases hw
    · have ht := hc.1 0 (by omega)
      have hw := jcy_wk (by omega) hc
      have hle : first ≤ r' 0 := by
        rcases hs (r' 0) ht with ⟨q1, q⟩ | ⟨q1, q2, q3, q4⟩
        · have z := q len hlen.1 hlen.2
          dsimp only at z
          rw [z] at hw; cases hw
        · rcases h3 (r' 0) ht with z | z | z
          · omega
          · have := q4 len hlen.1 z
            simp only at this
            rw [this] at hw; cases hw
          · exact z.2
      by_cases q : r' 0 = first
      · exact e2 r' hc (by rw [q, hr])
      · intro k hk hag
        cases k with
        | zero => rw [hr]; exact hle
        | succ k => exact absurd ((hag 0 (by omega)).symm.trans hr) q
