/-! The class's answers are the reference's. -/
theorem jmn_sc {h : jH} (hw : jHw h) {k n : Nat} {r : Nat → Nat} (q : jmn (jCy h k) n r) : jmn (jSc h k) n r :=
  ⟨q.1, q.2.1, jcy_simple (jP_rr hw k) (jM_rr hw) q, fun n' r' h1 h2 z => q.2.2.2.1 n' r' h1 h2 z.1, fun r' z => q.2.2.2.2 r' z.1⟩
/-- cycle -/
theorem jsame_cyc {h : jH} (hw : jHw h) {x : Int32} {σ τ : jxM} {len len' : Nat} (e1 : jin x 4 = false → len = 0)
    (a : ∀ k, k < 4 → x = nI k → (len = 0 → ∀ n r, 2 ≤ n → n ≤ 8 → ¬ jCy h k n r) ∧ (len ≠ 0 → ∃ row : Nat → Nat, (∀ i, i < len → σ 29 0 i = nI (row i)) ∧ jmn (jCy h k) len row))
    (e2 : jin x 4 = false → len' = 0)
    (b : ∀ k, k < 4 → x = nI k → (len' = 0 → ∀ n r, 2 ≤ n → n ≤ 8 → ¬ jSc h k n r) ∧ (len' ≠ 0 → ∃ row : Nat → Nat, (∀ i, i < len' → τ 51 0 i = nI (row i)) ∧ jmn (jSc h k) len' row)) : len = len' := by
  cases e : jin x 4 with
  | false => rw [e1 e, e2 e]
  | true =>
    obtain ⟨k, hk, ek⟩ := jin_of e (by decide)
    obtain ⟨a0, a1⟩ := a k hk ek
    obtain ⟨b0, b1⟩ := b k hk ek
    by_cases z : len = 0
    · by_cases y : len' = 0
      · omega
      · obtain ⟨row, -, m⟩ := b1 y
        exact absurd m.2.2.1.1 (a0 z len' row m.1 m.2.1)
    · obtain ⟨row, -, m⟩ := a1 z
      have m := jmn_sc hw m
      by_cases y : len' = 0
      · exact absurd m.2.2.1 (b0 y len row m.1 m.2.1)
      · obtain ⟨row', -, m'⟩ := b1 y
        exact (jmn_uniq m m').1
/-- step -/
theorem jsame_step {h : jH} (hw : jHw h) {x i v y : Int32} (e1 : jin x 4 = false → v = -1)
    (a : ∀ k, k < 4 → x = nI k → ((∀ n r, 2 ≤ n → n ≤ 8 → ¬ jCy h k n r) ∨ ∃ len row, jmn (jCy h k) len row) ∧ ((∀ n r, 2 ≤ n → n ≤ 8 → ¬ jCy h k n r) → v = -1) ∧ ∀ len row, jmn (jCy h k) len row → (jin i len = false → v = -1) ∧ ∀ j, j < len → i = nI j → v = nI (row j))
    (e2 : jin x 4 = false → y = -1)
    (b : ∀ k, k < 4 → x = nI k → ((∀ n r, 2 ≤ n → n ≤ 8 → ¬ jSc h k n r) → y = -1) ∧ ∀ len row, jmn (jSc h k) len row → (jin i len = false → y = -1) ∧ ∀ j, j < len → i = nI j → y = nI (row j)) : v = y := by
  cases e : jin x 4 with
  | false => rw [e1 e, e2 e]
  | true =>
    obtain ⟨k, hk, ek⟩ := jin_of e (by decide)
    obtain ⟨a0, a1, a2⟩ := a k hk ek
    obtain ⟨b1, b2⟩ := b k hk ek
    rcases a0 with z | ⟨len, row, m⟩
    · rw [a1 z, b1 (fun n r h1 h2 q => z n r h1 h2 q.1)]
    · obtain ⟨a3, a4⟩ := a2 len row m
      obtain ⟨b3, b4⟩ := b2 len row (jmn_sc hw m)
      cases f : jin i len with
      | false => rw [a3 f, b3 f]
      | true =>
        have := m.2.1
        obtain ⟨j, hj, ej⟩ := jin_of f (by omega)
        rw [a4 j hj ej, b4 j hj ej]
/-- place -/
theorem jsame_place {h : jH} {w : jV} (hw : jHw h) (hv : jVc h w) {x v y : Int32}
    (a1 : (jd (jsdR h (hyR h)) && jd (jce (jcmt h) (jmfc (jbfR h (hyR h)) (jrbR h (hyR h))) (fun _ => false))) = false ∨ jin x (jct (jcmt h)) = false → v = -1)
    (a2 : (jd (jsdR h (hyR h)) && jd (jce (jcmt h) (jmfc (jbfR h (hyR h)) (jrbR h (hyR h))) (fun _ => false))) = true → ∀ k, k < jct (jcmt h) → x = nI k → ∃ q, q < 8 ∧ v = nI q ∧ ∀ n ρ, jlo (jcmt h) (jmfc (jbfR h (hyR h)) (jrbR h (hyR h))) n ρ → q = ρ k)
    (b1 : jd (∃ r, jVo h 0 7 (jct (jcmt h)) r) = false ∨ jin x (jct (jcmt h)) = false → y = -1)
    (b2 : jd (∃ r, jVo h 0 7 (jct (jcmt h)) r) = true → ∀ k, k < jct (jcmt h) → x = nI k → ∃ row, jVo h 0 7 (jct (jcmt h)) row ∧ (∀ r, jVo h 0 7 (jct (jcmt h)) r → jlx (jct (jcmt h)) row r) ∧ y = nI (row k)) : v = y := by
  have es := jVo_ser hw hv
  unfold jMF at es
  rw [← es] at a1 a2
  cases e : jin x (jct (jcmt h)) with
  | false => rw [a1 (Or.inr e), b1 (Or.inr e)]
  | true =>
    cases f : jd (∃ r, jVo h 0 7 (jct (jcmt h)) r) with
    | false => rw [a1 (Or.inl f), b1 (Or.inl f)]
    | true =>
      have := jct_le (jcmt h)
      obtain ⟨k, hk, ek⟩ := jin_of e (by omega)
      obtain ⟨q, hq, rfl, hl⟩ := a2 f k hk ek
      obtain ⟨row, hV, hle, rfl⟩ := b2 f k hk ek
      obtain ⟨⟨s, o⟩, -⟩ := (jVo_iff hw hv).mp hV
      rw [hl _ row ⟨o, fun ρ o' => hle ρ ((jVo_iff hw hv).mpr ⟨⟨s, o'⟩, Nat.zero_le _, by have := (o'.1.1 0 (by omega)).1; omega⟩)⟩]
