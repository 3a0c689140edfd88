/-! The reference: its cells hold the same history, and the events one by one. -/
/-- events: how many, who, what, which version, whether a write -/
abbrev jV : Type := Nat × (Nat → Nat) × (Nat → Nat) × (Nat → Option Nat) × (Nat → Bool)
abbrev evE (v : jV) : Nat := v.1
abbrev evw (v : jV) : Nat → Nat := v.2.1
abbrev evx (v : jV) : Nat → Nat := v.2.2.1
abbrev evv (v : jV) : Nat → Option Nat := v.2.2.2.1
abbrev evb (v : jV) : Nat → Bool := v.2.2.2.2
/-- the reference's cells hold the history and its events -/
def jMs (h : jH) (v : jV) (σ : jxM) : Prop :=
  σ 40 0 2 = nI (hyV h) ∧ σ 40 0 5 = nI (hyR h) ∧ σ 40 0 6 = nI (evE v) ∧ (∀ t, t < 8 → σ 41 0 t = nI (hyS h t)) ∧ (∀ w, w < hyV h → σ 42 0 w = nI (hyW h w) ∧ σ 43 0 w = nI (hyI h w)) ∧
  (∀ e, e < evE v → σ 44 0 e = nI (evw v e) ∧ σ 45 0 e = nI (evx v e) ∧ σ 46 0 e = vI (evv v e) ∧ σ 47 0 e = jB (evb v e)) ∧
  (∀ x, x < 6 → σ 48 0 x = nI (hyon h x)) ∧ (∀ x i, x < 6 → i < hyon h x → σ 49 0 (8 * x + i) = nI (hyod h x i))
/-- the reference's versions stand -/
def jMv (h : jH) (σ : jxM) : Prop := σ 40 0 2 = nI (hyV h) ∧ ∀ w, w < hyV h → σ 42 0 w = nI (hyW h w) ∧ σ 43 0 w = nI (hyI h w)
theorem jMs_mv {h : jH} {v : jV} {σ : jxM} (k : jMs h v σ) : jMv h σ := ⟨k.1, k.2.2.2.2.1⟩
/-- the last version of x that t wrote among the first e events -/
def jlw (v : jV) (t x : Nat) : Nat → Option Nat
  | 0 => none
  | e + 1 => if evb v e = true ∧ evw v e = t ∧ evx v e = x then evv v e else jlw v t x e
/-- the events tell the history -/
def jVc (h : jH) (v : jV) : Prop :=
  evE v = hyV h + hyR h ∧ (∀ e, e < evE v → evw v e < 8 ∧ evx v e < 6 ∧ ∀ w, evv v e = some w → w < hyV h) ∧ (∀ e, e < evE v → evb v e = true → evv v e ≠ none) ∧
  (∀ t x, hylt h t x = jlw v t x (evE v)) ∧
  (∃ pe : Nat → Nat, (∀ r, r < hyR h → pe r < evE v ∧ evb v (pe r) = false ∧ evw v (pe r) = hyrd h r ∧ evx v (pe r) = hyri h r ∧ evv v (pe r) = hyrv h r ∧ hyro h r = jlw v (hyrd h r) (hyri h r) (pe r)) ∧ ∀ e, e < evE v → evb v e = false → ∃ r, r < hyR h ∧ pe r = e) ∧
  (∀ w, w < hyV h → (hylt h (hyW h w) (hyI h w) = some w ↔ ∀ k, w < k → k < hyV h → ¬ (hyW h k = hyW h w ∧ hyI h k = hyI h w)))
section JMS
variable {h : jH} {v : jV} {σ : jxM}
theorem jMs_V (k : jMs h v σ) : σ 40 0 2 = nI (hyV h) := k.1
theorem jMs_R (k : jMs h v σ) : σ 40 0 5 = nI (hyR h) := k.2.1
theorem jMs_E (k : jMs h v σ) : σ 40 0 6 = nI (evE v) := k.2.2.1
theorem jMs_S (k : jMs h v σ) {t : Nat} (ht : t < 8) : σ 41 0 t = nI (hyS h t) := k.2.2.2.1 t ht
theorem jMs_W (k : jMs h v σ) {w : Nat} (hw : w < hyV h) : σ 42 0 w = nI (hyW h w) := (k.2.2.2.2.1 w hw).1
theorem jMs_I (k : jMs h v σ) {w : Nat} (hw : w < hyV h) : σ 43 0 w = nI (hyI h w) := (k.2.2.2.2.1 w hw).2
theorem jMs_w (k : jMs h v σ) {e : Nat} (he : e < evE v) : σ 44 0 e = nI (evw v e) := (k.2.2.2.2.2.1 e he).1
theorem jMs_x (k : jMs h v σ) {e : Nat} (he : e < evE v) : σ 45 0 e = nI (evx v e) := (k.2.2.2.2.2.1 e he).2.1
theorem jMs_v (k : jMs h v σ) {e : Nat} (he : e < evE v) : σ 46 0 e = vI (evv v e) := (k.2.2.2.2.2.1 e he).2.2.1
theorem jMs_b (k : jMs h v σ) {e : Nat} (he : e < evE v) : σ 47 0 e = jB (evb v e) := (k.2.2.2.2.2.1 e he).2.2.2
theorem jMs_on (k : jMs h v σ) {x : Nat} (hx : x < 6) : σ 48 0 x = nI (hyon h x) := k.2.2.2.2.2.2.1 x hx
theorem jMs_od (k : jMs h v σ) {x i : Nat} (hx : x < 6) (hi : i < hyon h x) : σ 49 0 (8 * x + i) = nI (hyod h x i) := k.2.2.2.2.2.2.2 x i hx hi
theorem jVc_E (hw : jHw h) (k : jVc h v) : evE v ≤ 100 := by have := k.1; have := jHw_V hw; have := jHw_R hw; omega
theorem jVc_w (k : jVc h v) {e : Nat} (he : e < evE v) : evw v e < 8 := (k.2.1 e he).1
theorem jVc_x (k : jVc h v) {e : Nat} (he : e < evE v) : evx v e < 6 := (k.2.1 e he).2.1
theorem jVc_v (k : jVc h v) {e w : Nat} (he : e < evE v) (hv : evv v e = some w) : w < hyV h := (k.2.1 e he).2.2 w hv
end JMS
/-- what a question leaves of the reference -/
def jfm (σ σ' : jxM) : Prop := (∀ g, g ≠ 40 → g < 50 → σ' g = σ g) ∧ ∀ j, j ≠ 0 → j ≠ 16 → σ' 40 0 j = σ 40 0 j
theorem jfm_rf {σ : jxM} : jfm σ σ := ⟨fun _ _ _ => rfl, fun _ _ _ => rfl⟩
theorem jfm_tr {σ σ' σ'' : jxM} (h : jfm σ σ') (h' : jfm σ' σ'') : jfm σ σ'' := ⟨fun g h1 h2 => by rw [h'.1 g h1 h2, h.1 g h1 h2], fun j h1 h2 => by rw [h'.2 j h1 h2, h.2 j h1 h2]⟩
theorem jfm_s {σ : jxM} {g r j : Nat} {x : Int32} (hg : 50 ≤ g) : jfm σ (jxs σ g r j x) := ⟨fun g' _ h2 => jxs_g _ _ _ _ _ (by omega), fun j' _ _ => by rw [jxs_g _ _ _ _ _ (by omega)]⟩
theorem jfm_c {σ : jxM} {x : Int32} : jfm σ (jxs σ 40 0 0 x) := ⟨fun g' h1 _ => jxs_g _ _ _ _ _ h1, fun j' h1 _ => by rw [jxs_at, if_neg (fun q => h1 q.2.2)]⟩
theorem jfm_z {σ : jxM} {x : Int32} : jfm σ (jxs σ 40 0 16 x) := ⟨fun g' h1 _ => jxs_g _ _ _ _ _ h1, fun j' _ h2 => by rw [jxs_at, if_neg (fun q => h2 q.2.2)]⟩
theorem jMs_keep {h : jH} {v : jV} {σ σ' : jxM} (k : jMs h v σ) (e : jfm σ σ') : jMs h v σ' := by
  unfold jMs
  rw [e.2 2 (by decide) (by decide), e.2 5 (by decide) (by decide), e.2 6 (by decide) (by decide), e.1 41 (by decide) (by decide), e.1 42 (by decide) (by decide), e.1 43 (by decide) (by decide), e.1 44 (by decide) (by decide), e.1 45 (by decide) (by decide), e.1 46 (by decide) (by decide), e.1 47 (by decide) (by decide), e.1 48 (by decide) (by decide), e.1 49 (by decide) (by decide)]
  exact k
/-- one more of a growing 'some' -/
theorem jor1 {k : Nat} {P : Nat → Prop} (h : jd (∃ e, e < k ∧ P e) = true) : nI 1 = jB (jd (∃ e, e < k + 1 ∧ P e)) := by
  rw [jd_iff.mpr (jex_succ.mpr (Or.inl (jd_iff.mp h)))]; rfl
theorem jor2 {k : Nat} {P : Nat → Prop} (h : P k) : nI 1 = jB (jd (∃ e, e < k + 1 ∧ P e)) := by
  rw [jd_iff.mpr (jex_succ.mpr (Or.inr h))]; rfl
theorem jor0 {k : Nat} {P : Nat → Prop} (h : jd (∃ e, e < k ∧ P e) = false) (h2 : ¬ P k) : nI 0 = jB (jd (∃ e, e < k + 1 ∧ P e)) := by
  rw [jd_no.mpr (fun q => (jex_succ.mp q).elim (jd_no.mp h) h2)]; rfl
theorem jor_0 {P : Nat → Prop} : nI 0 = jB (jd (∃ e, e < 0 ∧ P e)) := by rw [jd_no.mpr (fun ⟨e, h, _⟩ => by omega)]; rfl
theorem j_ix (a x i : Nat) : nI a * nI x + nI i = nI (a * x + i) := by rw [pk_mul, nI_add]
/-- o' is the next version behind o in the order of x (behind none: the first) -/
def jnv (h : jH) (x : Nat) (o o' : Option Nat) : Prop :=
  (o' = none ∧ (o = none → hyon h x = 0) ∧ ∀ v, o = some v → ∀ i, i + 1 < hyon h x → hyod h x i ≠ v) ∨
  (∃ i, i < hyon h x ∧ ((o = none ∧ i = 0) ∨ (0 < i ∧ o = some (hyod h x (i - 1)))) ∧ o' = some (hyod h x i))
theorem jnv_nwr {h : jH} {x : Nat} {o o' : Option Nat} (k : jnv h x o o') : jnwr h x o (o'.map (hyW h)) := by
  rcases k with ⟨rfl, a, b⟩ | ⟨i, a, b, rfl⟩
  · exact Or.inl ⟨rfl, a, b⟩
  · exact Or.inr ⟨i, a, b, rfl⟩
theorem jnv_lt {h : jH} (hw : jHw h) {x : Nat} (hx : x < 6) {o o' : Option Nat} (k : jnv h x o o') : ∀ w, o' = some w → w < hyV h := by
  rcases k with ⟨rfl, a, b⟩ | ⟨i, a, b, rfl⟩
  · exact fun w q => by cases q
  · exact fun w q => by cases q; exact (jHw_od hw hx a).1
