/-! Serial orders, purely: what an order reads, and what the sets say of it. A history here: committed C, reads rd ri rv ro (R of them), latest lt, writers Wr, items It. -/
def jla (lt : Nat → Nat → Option Nat) (r : Nat → Nat) : Nat → Nat → Option Nat
  | 0, _ => none
  | i + 1, x => match lt (r i) x with
    | some v => some v
    | none => jla lt r i x
theorem jla_none {lt : Nat → Nat → Option Nat} {r : Nat → Nat} {x : Nat} : ∀ i, jla lt r i x = none ↔ ∀ j, j < i → lt (r j) x = none := by
  intro i
  induction i with
  | zero => simp [jla]
  | succ i ih =>
    rw [jla]
    cases h : lt (r i) x with
    | some v =>
      simp only
      constructor
      · intro q; cases q
      · intro q; have := q i (by omega); rw [h] at this; cases this
    | none =>
      simp only
      rw [ih]
      constructor
      · intro q j hj
        by_cases e : j = i
        · rw [e, h]
        · exact q j (by omega)
      · intro q j hj; exact q j (by omega)
theorem jla_some {lt : Nat → Nat → Option Nat} {r : Nat → Nat} {x v : Nat} : ∀ i, jla lt r i x = some v → ∃ j, j < i ∧ lt (r j) x = some v ∧ ∀ k, j < k → k < i → lt (r k) x = none := by
  intro i
  induction i with
  | zero => intro h; simp [jla] at h
  | succ i ih =>
    rw [jla]
    cases h : lt (r i) x with
    | some w =>
      simp only
      intro q
      cases q
      exact ⟨i, by omega, h, fun k h1 h2 => by omega⟩
    | none =>
      simp only
      intro q
      obtain ⟨j, h1, h2, h3⟩ := ih q
      refine ⟨j, by omega, h2, fun k g1 g2 => ?_⟩
      by_cases e : k = i
      · rw [e, h]
      · exact h3 k g1 (by omega)
theorem jla_at {lt : Nat → Nat → Option Nat} {r : Nat → Nat} {x v : Nat} {i j : Nat} (hj : j < i) (h : lt (r j) x = some v) (hn : ∀ k, j < k → k < i → lt (r k) x = none) : jla lt r i x = some v := by
  cases e : jla lt r i x with
  | none => have := (jla_none i).mp e j hj; rw [h] at this; cases this
  | some w =>
    obtain ⟨k, h1, h2, h3⟩ := jla_some i e
    rcases Nat.lt_trichotomy j k with q | q | q
    · have := hn k q h1; rw [h2] at this; cases this
    · subst q; rw [h] at h2; exact h2.symm
    · have := h3 j q hj; rw [h] at this; cases this
section JSR
variable (C : Nat → Bool) (R : Nat) (rd ri : Nat → Nat) (rv ro : Nat → Option Nat) (lt : Nat → Nat → Option Nat) (Wr It : Nat → Nat)
/-- no read rules out every order by itself -/
def jsnd : Prop := ∀ p, p < R → C (rd p) = true → (∀ o, ro p = some o → rv p = some o) ∧ (ro p = none → ∀ v, rv p = some v → C (Wr v) = true ∧ lt (Wr v) (It v) = some v)
/-- u must stand before t -/
def jbf (t u : Nat) : Prop := ∃ p, p < R ∧ C (rd p) = true ∧ ro p = none ∧ ((rv p = none ∧ u = rd p ∧ t ≠ rd p ∧ C t = true ∧ lt t (ri p) ≠ none) ∨ (∃ v, rv p = some v ∧ t = rd p ∧ u = Wr v))
/-- u reads from w, and t would cut it off -/
def jrb (w t u : Nat) : Prop := ∃ p v, p < R ∧ C (rd p) = true ∧ ro p = none ∧ rv p = some v ∧ u = rd p ∧ w = Wr v ∧ t ≠ rd p ∧ t ≠ w ∧ lt t (ri p) ≠ none
/-- t may follow behind the set D -/
def jmf (t : Nat) (D : Nat → Prop) : Prop := (∀ u, jbf C R rd ri rv ro lt Wr t u → D u) ∧ ∀ w, D w → ∀ u, jrb C R rd ri rv ro lt Wr w t u → D u
/-- an order of all that committed -/
def jpm (n : Nat) (r : Nat → Nat) : Prop := (∀ i, i < n → r i < 8 ∧ C (r i) = true) ∧ (∀ i j, i < n → j < n → r i = r j → i = j) ∧ ∀ t, t < 8 → C t = true → ∃ i, i < n ∧ r i = t
/-- the i-th of the order reads what it read -/
def jrd (r : Nat → Nat) (i : Nat) : Prop := ∀ p, p < R → rd p = r i → match ro p with
  | some o => rv p = some o
  | none => jla lt r i (ri p) = rv p
/-- what the history is known to keep -/
def jhk : Prop := (∀ p, p < R → rd p < 8) ∧ (∀ p v, p < R → rv p = some v → It v = ri p) ∧ (∀ t x v, lt t x = some v → Wr v = t ∧ It v = x) ∧ (∀ p v, p < R → rv p = some v → Wr v = rd p → ro p ≠ none)
variable {C R rd ri rv ro lt Wr It}
theorem jser_of {n : Nat} {r : Nat → Nat} (hk : jhk R rd ri rv ro lt Wr It) (hp : jpm C n r) (hs : jsnd C R rd rv ro lt Wr It) (hm : ∀ i, i < n → jmf C R rd ri rv ro lt Wr (r i) (fun u => ∃ j, j < i ∧ r j = u)) : ∀ i, i < n → jrd R rd ri rv ro lt r i := by
  obtain ⟨k1, k2, k3, k4⟩ := hk
  obtain ⟨p1, p2, p3⟩ := hp
  intro i hi p hpR hpi
  have hC : C (rd p) = true := by rw [hpi]; exact (p1 i hi).2
  obtain ⟨s1, s2⟩ := hs p hpR hC
  cases ho : ro p with
  | some o => exact s1 o ho
  | none =>
    show jla lt r i (ri p) = rv p
    cases hv : rv p with
    | none =>
      rw [jla_none]
      intro j hj
      cases hl : lt (r j) (ri p) with
      | none => rfl
      | some w =>
        have hne : r j ≠ rd p := fun q => by have := p2 j i (by omega) hi (by rw [q, hpi]); omega
        obtain ⟨k, hk1, hk2⟩ := (hm j (by omega)).1 (rd p) ⟨p, hpR, hC, ho, Or.inl ⟨hv, rfl, hne, (p1 j (by omega)).2, by rw [hl]; exact fun q => by cases q⟩⟩
        have := p2 k i (by omega) hi (by rw [hk2, hpi])
        omega
    | some v =>
      obtain ⟨c1, c2⟩ := s2 ho v hv
      rw [k2 p v hpR hv] at c2
      obtain ⟨j, hj1, hj2⟩ := (hm i hi).1 (Wr v) ⟨p, hpR, hC, ho, Or.inr ⟨v, hv, hpi.symm, rfl⟩⟩
      refine jla_at hj1 (by rw [hj2]; exact c2) (fun k h1 h2 => ?_)
      cases hl : lt (r k) (ri p) with
      | none => rfl
      | some w =>
        have hne : r k ≠ rd p := fun q => by have := p2 k i (by omega) hi (by rw [q, hpi]); omega
        have hne2 : r k ≠ Wr v := fun q => by have := p2 k j (by omega) (by omega) (by rw [q, hj2]); omega
        obtain ⟨z, hz1, hz2⟩ := (hm k (by omega)).2 (Wr v) ⟨j, h1, hj2⟩ (rd p) ⟨p, v, hpR, hC, ho, hv, rfl, rfl, hne, hne2, by rw [hl]; exact fun q => by cases q⟩
        have := p2 z i (by omega) hi (by rw [hz2, hpi])
        omega
theorem jser_to {n : Nat} {r : Nat → Nat} (hk : jhk R rd ri rv ro lt Wr It) (hp : jpm C n r) (hr : ∀ i, i < n → jrd R rd ri rv ro lt r i) : jsnd C R rd rv ro lt Wr It ∧ ∀ i, i < n → jmf C R rd ri rv ro lt Wr (r i) (fun u => ∃ j, j < i ∧ r j = u) := by
  obtain ⟨k1, k2, k3, k4⟩ := hk
  obtain ⟨p1, p2, p3⟩ := hp
  -- a read of somebody's at its place in the order
  have rdAt : ∀ p, p < R → C (rd p) = true → ∃ i, i < n ∧ r i = rd p ∧ (∀ o, ro p = some o → rv p = some o) ∧ (ro p = none → jla lt r i (ri p) = rv p) := by
    intro p hpR hC
    obtain ⟨i, hi, he⟩ := p3 (rd p) (k1 p hpR) hC
    have := hr i hi p hpR he.symm
    refine ⟨i, hi, he, fun o ho => ?_, fun ho => ?_⟩
    · rw [ho] at this; exact this
    · rw [ho] at this; exact this
  refine ⟨fun p hpR hC => ?_, fun i hi => ⟨fun u hu => ?_, fun w hw u hu => ?_⟩⟩
  · obtain ⟨i, hi, he, h1, h2⟩ := rdAt p hpR hC
    refine ⟨h1, fun ho v hv => ?_⟩
    have h := h2 ho
    rw [hv] at h
    obtain ⟨j, hj, hl, -⟩ := jla_some i h
    obtain ⟨e1, e2⟩ := k3 _ _ _ hl
    rw [e1, e2]
    exact ⟨(p1 j (by omega)).2, hl⟩
  · obtain ⟨p, hpR, hC, ho, h⟩ := hu
    obtain ⟨k, hk, he, -, h2⟩ := rdAt p hpR hC
    have h2 := h2 ho
    rcases h with ⟨hv, rfl, hne, hCt, hl⟩ | ⟨v, hv, ht, rfl⟩
    · refine Classical.byContradiction (fun hno => ?_)
      have hik : i < k := by
        rcases Nat.lt_trichotomy i k with q | q | q
        · exact q
        · subst q; exact absurd he hne
        · exact absurd ⟨k, q, he⟩ hno
      rw [hv] at h2
      exact hl ((jla_none k).mp h2 i hik)
    · have hki : k = i := p2 k i hk hi (by rw [he, ht])
      subst hki
      rw [hv] at h2
      obtain ⟨j, hj, hl, -⟩ := jla_some k h2
      exact ⟨j, hj, ((k3 _ _ _ hl).1).symm⟩
  · obtain ⟨j, hj, rfl⟩ := hw
    obtain ⟨p, v, hpR, hC, ho, hv, rfl, hw, hne, hne2, hl⟩ := hu
    obtain ⟨k, hk, he, -, h2⟩ := rdAt p hpR hC
    have h2 := h2 ho
    refine Classical.byContradiction (fun hno => ?_)
    have hik : i < k := by
      rcases Nat.lt_trichotomy i k with q | q | q
      · exact q
      · subst q; exact absurd he hne
      · exact absurd ⟨k, q, he⟩ hno
    rw [hv] at h2
    obtain ⟨z, hz, hlz, hn⟩ := jla_some k h2
    have e1 := (k3 _ _ _ hlz).1
    have hzj : z = j := p2 z j (by omega) (by omega) (by rw [← e1, hw])
    subst hzj
    exact hl (hn i (by omega) hik)
end JSR
