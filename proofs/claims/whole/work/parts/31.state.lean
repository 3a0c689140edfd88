/-! A history: what was written, read and ended; what the class's cells hold of it. -/
noncomputable def jd (p : Prop) : Bool := @decide p (Classical.propDecidable p)
theorem jd_iff {p : Prop} : jd p = true ↔ p := by unfold jd; exact @decide_eq_true_iff p (Classical.propDecidable p)
theorem jd_no {p : Prop} : jd p = false ↔ ¬ p := by unfold jd; exact @decide_eq_false_iff_not p (Classical.propDecidable p)
theorem jd_ext {p q : Prop} (h : p ↔ q) : jd p = jd q := by rw [Bool.eq_iff_iff, jd_iff, jd_iff]; exact h
/-- states, versions, their writers and items, reads: reader, item, version, own version; latest by transaction and item; how many stand in an item's order, and which -/
abbrev jH : Type := (Nat → Nat) × Nat × (Nat → Nat) × (Nat → Nat) × Nat × (Nat → Nat) × (Nat → Nat) × (Nat → Option Nat) × (Nat → Option Nat) × (Nat → Nat → Option Nat) × (Nat → Nat) × (Nat → Nat → Nat)
abbrev hyS (h : jH) : Nat → Nat := h.1
abbrev hyV (h : jH) : Nat := h.2.1
abbrev hyW (h : jH) : Nat → Nat := h.2.2.1
abbrev hyI (h : jH) : Nat → Nat := h.2.2.2.1
abbrev hyR (h : jH) : Nat := h.2.2.2.2.1
abbrev hyrd (h : jH) : Nat → Nat := h.2.2.2.2.2.1
abbrev hyri (h : jH) : Nat → Nat := h.2.2.2.2.2.2.1
abbrev hyrv (h : jH) : Nat → Option Nat := h.2.2.2.2.2.2.2.1
abbrev hyro (h : jH) : Nat → Option Nat := h.2.2.2.2.2.2.2.2.1
abbrev hylt (h : jH) : Nat → Nat → Option Nat := h.2.2.2.2.2.2.2.2.2.1
abbrev hyon (h : jH) : Nat → Nat := h.2.2.2.2.2.2.2.2.2.2.1
abbrev hyod (h : jH) : Nat → Nat → Nat := h.2.2.2.2.2.2.2.2.2.2.2
/-- the class's cells hold the history -/
def jHs (h : jH) (σ : jxM) : Prop :=
  σ 1 0 3 = nI (hyV h) ∧ σ 1 0 8 = nI (hyR h) ∧ (∀ t, t < 8 → σ 2 0 t = nI (hyS h t)) ∧ (∀ v, v < hyV h → σ 3 0 v = nI (hyW h v) ∧ σ 4 0 v = nI (hyI h v)) ∧
  (∀ r, r < hyR h → σ 5 0 r = nI (hyrd h r) ∧ σ 6 0 r = nI (hyri h r) ∧ σ 7 0 r = vI (hyrv h r) ∧ σ 8 0 r = vI (hyro h r)) ∧
  (∀ t x, t < 8 → x < 6 → σ 10 t x = vI (hylt h t x)) ∧ (∀ x, x < 6 → σ 13 0 x = nI (hyon h x)) ∧ (∀ x i, x < 6 → i < hyon h x → σ 12 x i = nI (hyod h x i))
/-- what a history keeps -/
def jHw (h : jH) : Prop :=
  hyV h ≤ 40 ∧ hyR h ≤ 60 ∧ (∀ t, t < 8 → hyS h t < 4) ∧ (∀ v, v < hyV h → hyW h v < 8 ∧ hyI h v < 6) ∧
  (∀ r, r < hyR h → hyrd h r < 8 ∧ hyri h r < 6 ∧ (∀ v, hyrv h r = some v → v < hyV h ∧ hyI h v = hyri h r) ∧ (∀ v, hyro h r = some v → v < hyV h) ∧ (∀ v, hyrv h r = some v → hyW h v = hyrd h r → hyro h r ≠ none)) ∧
  (∀ t x v, t < 8 → x < 6 → hylt h t x = some v → v < hyV h ∧ hyW h v = t ∧ hyI h v = x) ∧
  (∀ x, x < 6 → hyon h x ≤ 8 ∧ (∀ i, i < hyon h x → hyod h x i < hyV h ∧ hyI h (hyod h x i) = x ∧ hyS h (hyW h (hyod h x i)) = 2 ∧ hylt h (hyW h (hyod h x i)) x = some (hyod h x i)) ∧ ∀ i j, i < hyon h x → j < hyon h x → hyod h x i = hyod h x j → i = j)
section JHS
variable {h : jH} {σ : jxM}
theorem jHs_V (k : jHs h σ) : σ 1 0 3 = nI (hyV h) := k.1
theorem jHs_R (k : jHs h σ) : σ 1 0 8 = nI (hyR h) := k.2.1
theorem jHs_S (k : jHs h σ) {t : Nat} (ht : t < 8) : σ 2 0 t = nI (hyS h t) := k.2.2.1 t ht
theorem jHs_W (k : jHs h σ) {v : Nat} (hv : v < hyV h) : σ 3 0 v = nI (hyW h v) := (k.2.2.2.1 v hv).1
theorem jHs_I (k : jHs h σ) {v : Nat} (hv : v < hyV h) : σ 4 0 v = nI (hyI h v) := (k.2.2.2.1 v hv).2
theorem jHs_rd (k : jHs h σ) {r : Nat} (hr : r < hyR h) : σ 5 0 r = nI (hyrd h r) := (k.2.2.2.2.1 r hr).1
theorem jHs_ri (k : jHs h σ) {r : Nat} (hr : r < hyR h) : σ 6 0 r = nI (hyri h r) := (k.2.2.2.2.1 r hr).2.1
theorem jHs_rv (k : jHs h σ) {r : Nat} (hr : r < hyR h) : σ 7 0 r = vI (hyrv h r) := (k.2.2.2.2.1 r hr).2.2.1
theorem jHs_ro (k : jHs h σ) {r : Nat} (hr : r < hyR h) : σ 8 0 r = vI (hyro h r) := (k.2.2.2.2.1 r hr).2.2.2
theorem jHs_lt (k : jHs h σ) {t x : Nat} (ht : t < 8) (hx : x < 6) : σ 10 t x = vI (hylt h t x) := k.2.2.2.2.2.1 t x ht hx
theorem jHs_on (k : jHs h σ) {x : Nat} (hx : x < 6) : σ 13 0 x = nI (hyon h x) := k.2.2.2.2.2.2.1 x hx
theorem jHs_od (k : jHs h σ) {x i : Nat} (hx : x < 6) (hi : i < hyon h x) : σ 12 x i = nI (hyod h x i) := k.2.2.2.2.2.2.2 x i hx hi
theorem jHw_V (k : jHw h) : hyV h ≤ 40 := k.1
theorem jHw_R (k : jHw h) : hyR h ≤ 60 := k.2.1
theorem jHw_S (k : jHw h) {t : Nat} (ht : t < 8) : hyS h t < 4 := k.2.2.1 t ht
theorem jHw_W (k : jHw h) {v : Nat} (hv : v < hyV h) : hyW h v < 8 := (k.2.2.2.1 v hv).1
theorem jHw_I (k : jHw h) {v : Nat} (hv : v < hyV h) : hyI h v < 6 := (k.2.2.2.1 v hv).2
theorem jHw_rd (k : jHw h) {r : Nat} (hr : r < hyR h) : hyrd h r < 8 := (k.2.2.2.2.1 r hr).1
theorem jHw_ri (k : jHw h) {r : Nat} (hr : r < hyR h) : hyri h r < 6 := (k.2.2.2.2.1 r hr).2.1
theorem jHw_rv (k : jHw h) {r v : Nat} (hr : r < hyR h) (hv : hyrv h r = some v) : v < hyV h ∧ hyI h v = hyri h r := (k.2.2.2.2.1 r hr).2.2.1 v hv
theorem jHw_ro (k : jHw h) {r v : Nat} (hr : r < hyR h) (hv : hyro h r = some v) : v < hyV h := (k.2.2.2.2.1 r hr).2.2.2.1 v hv
theorem jHw_lt (k : jHw h) {t x v : Nat} (ht : t < 8) (hx : x < 6) (hv : hylt h t x = some v) : v < hyV h ∧ hyW h v = t ∧ hyI h v = x := k.2.2.2.2.2.1 t x v ht hx hv
theorem jHw_on (k : jHw h) {x : Nat} (hx : x < 6) : hyon h x ≤ 8 := (k.2.2.2.2.2.2 x hx).1
theorem jHw_od (k : jHw h) {x i : Nat} (hx : x < 6) (hi : i < hyon h x) : hyod h x i < hyV h ∧ hyI h (hyod h x i) = x ∧ hyS h (hyW h (hyod h x i)) = 2 ∧ hylt h (hyW h (hyod h x i)) x = some (hyod h x i) := (k.2.2.2.2.2.2 x hx).2.1 i hi
theorem jHw_inj (k : jHw h) {x i j : Nat} (hx : x < 6) (hi : i < hyon h x) (hj : j < hyon h x) (e : hyod h x i = hyod h x j) : i = j := (k.2.2.2.2.2.2 x hx).2.2 i j hi hj e
end JHS
/-- the class's cells of the history, unchanged -/
theorem jHs_keep {h : jH} {σ σ' : jxM} (k : jHs h σ) (e : ∀ g, g ≤ 13 → σ' g = σ g) : jHs h σ' := by
  unfold jHs
  rw [e 1 (by omega), e 2 (by omega), e 3 (by omega), e 4 (by omega), e 5 (by omega), e 6 (by omega), e 7 (by omega), e 8 (by omega), e 10 (by omega), e 12 (by omega), e 13 (by omega)]
  exact k
theorem jxs_g (σ : jxM) (g r j : Nat) (x : Int32) {g' : Nat} (h : g' ≠ g) : jxs σ g r j x g' = σ g' := by
  funext r'
  exact jxs_off σ g r j x (fun q => h q.1)
theorem jHJ {g r : Nat} (h : r < jrwH g) : r < jrwJ g := by
  by_cases hg : g < 14
  · have : ∀ g, g < 14 → jrwH g ≤ jrwJ g := by decide
    have := this g hg
    omega
  · exfalso
    have e : jrwH g = 0 := by
      unfold jrwH
      split <;> first | rfl | omega
    omega
