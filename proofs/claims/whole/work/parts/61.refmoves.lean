/-! The reference's cells behind every move. -/
/-- what 'note' leaves -/
def jnt (σ : jxM) (E t x : Nat) (o : Int32) (b : Bool) : jxM := jxs (jxs (jxs (jxs (jxs (jxs σ 44 0 E (nI t)) 45 0 E (nI x)) 46 0 E o) 47 0 E (jB b)) 40 0 6 (nI (E + 1))) 41 0 t (nI 1)
theorem jMs_code {h : jH} {v : jV} {σ : jxM} {c : Int32} (hm : jMs h v σ) : jMs h v (jxs σ 40 0 0 c) := jMs_keep hm jfm_c
section JRM
variable {h : jH} {v : jV} {σ : jxM}
theorem jMs_addV (hm : jMs h v σ) {t x : Nat} : jMs (jaddV h t x) (jev v t x (some (hyV h)) true) (jxs (jnt (jxs (jxs σ 42 0 (hyV h) (nI t)) 43 0 (hyV h) (nI x)) (evE v) t x (nI (hyV h)) true) 40 0 2 (nI (hyV h + 1))) := by
  unfold jnt
  refine ⟨?_, ?_, ?_, fun t' ht' => ?_, fun w hw => ⟨?_, ?_⟩, fun e he => ?_, fun x' hx' => ?_, fun x' i hx' hi => ?_⟩
  · show _ = nI (hyV h + 1)
    simp [jxs_at]
  · show _ = nI (hyR h)
    simp [jxs_at]; exact jMs_R hm
  · show _ = nI (evE v + 1)
    simp [jxs_at]
  · show _ = nI (jup (hyS h) t 1 t')
    by_cases e : t' = t
    · subst e; simp [jxs_at, jup]
    · simp [jxs_at, jup, e]; exact jMs_S hm ht'
  · have hw : w < hyV h + 1 := hw
    show _ = nI (jup (hyW h) (hyV h) t w)
    by_cases e : w = hyV h
    · subst e; simp [jxs_at, jup]
    · simp [jxs_at, jup, e]; exact jMs_W hm (by omega)
  · have hw : w < hyV h + 1 := hw
    show _ = nI (jup (hyI h) (hyV h) x w)
    by_cases e : w = hyV h
    · subst e; simp [jxs_at, jup]
    · simp [jxs_at, jup, e]; exact jMs_I hm (by omega)
  · have he : e < evE v + 1 := he
    show _ = nI (jup (evw v) (evE v) t e) ∧ _ = nI (jup (evx v) (evE v) x e) ∧ _ = vI (jup (evv v) (evE v) (some (hyV h)) e) ∧ _ = jB (jup (evb v) (evE v) true e)
    by_cases z : e = evE v
    · subst z; simp [jxs_at, jup, vI]
    · simp [jxs_at, jup, z]; exact ⟨jMs_w hm (by omega), jMs_x hm (by omega), jMs_v hm (by omega), jMs_b hm (by omega)⟩
  · show _ = nI (hyon h x')
    simp [jxs_at]; exact jMs_on hm hx'
  · show _ = nI (hyod h x' i)
    simp [jxs_at]; exact jMs_od hm hx' hi
theorem jMs_addR (hm : jMs h v σ) {t x : Nat} {o : Option Nat} : jMs (jaddR h t x o) (jev v t x o false) (jxs (jnt σ (evE v) t x (vI o) false) 40 0 5 (nI (hyR h + 1))) := by
  unfold jnt
  refine ⟨?_, ?_, ?_, fun t' ht' => ?_, fun w hw => ⟨?_, ?_⟩, fun e he => ?_, fun x' hx' => ?_, fun x' i hx' hi => ?_⟩
  · show _ = nI (hyV h)
    simp [jxs_at]; exact jMs_V hm
  · show _ = nI (hyR h + 1)
    simp [jxs_at]
  · show _ = nI (evE v + 1)
    simp [jxs_at]
  · show _ = nI (jup (hyS h) t 1 t')
    by_cases e : t' = t
    · subst e; simp [jxs_at, jup]
    · simp [jxs_at, jup, e]; exact jMs_S hm ht'
  · show _ = nI (hyW h w)
    simp [jxs_at]; exact jMs_W hm hw
  · show _ = nI (hyI h w)
    simp [jxs_at]; exact jMs_I hm hw
  · have he : e < evE v + 1 := he
    show _ = nI (jup (evw v) (evE v) t e) ∧ _ = nI (jup (evx v) (evE v) x e) ∧ _ = vI (jup (evv v) (evE v) o e) ∧ _ = jB (jup (evb v) (evE v) false e)
    by_cases z : e = evE v
    · subst z; simp [jxs_at, jup]
    · simp [jxs_at, jup, z]; exact ⟨jMs_w hm (by omega), jMs_x hm (by omega), jMs_v hm (by omega), jMs_b hm (by omega)⟩
  · show _ = nI (hyon h x')
    simp [jxs_at]; exact jMs_on hm hx'
  · show _ = nI (hyod h x' i)
    simp [jxs_at]; exact jMs_od hm hx' hi
theorem jMs_end (hm : jMs h v σ) {t s : Nat} : jMs (jend h t s) v (jxs σ 41 0 t (nI s)) := by
  refine ⟨?_, ?_, ?_, fun t' ht' => ?_, fun w hw => ⟨?_, ?_⟩, fun e he => ?_, fun x' hx' => ?_, fun x' i hx' hi => ?_⟩
  · show _ = nI (hyV h)
    simp [jxs_at]; exact jMs_V hm
  · show _ = nI (hyR h)
    simp [jxs_at]; exact jMs_R hm
  · simp [jxs_at]; exact jMs_E hm
  · show _ = nI (jup (hyS h) t s t')
    by_cases e : t' = t
    · subst e; simp [jxs_at, jup]
    · simp [jxs_at, jup, e]; exact jMs_S hm ht'
  · show _ = nI (hyW h w)
    simp [jxs_at]; exact jMs_W hm hw
  · show _ = nI (hyI h w)
    simp [jxs_at]; exact jMs_I hm hw
  · simp [jxs_at]; exact ⟨jMs_w hm he, jMs_x hm he, jMs_v hm he, jMs_b hm he⟩
  · show _ = nI (hyon h x')
    simp [jxs_at]; exact jMs_on hm hx'
  · show _ = nI (hyod h x' i)
    simp [jxs_at]; exact jMs_od hm hx' hi
theorem jMs_exc (hw : jHw h) (hm : jMs h v σ) {x i : Nat} (hx : x < 6) (hi : i + 1 < hyon h x) : jMs (jexc h x i) v (jxs (jxs σ 49 0 (8 * x + i) (nI (hyod h x (i + 1)))) 49 0 (8 * x + i + 1) (nI (hyod h x i))) := by
  refine ⟨?_, ?_, ?_, fun t' ht' => ?_, fun w hw => ⟨?_, ?_⟩, fun e he => ?_, fun x' hx' => ?_, fun x' j hx' hj => ?_⟩
  · show _ = nI (hyV h)
    simp [jxs_at]; exact jMs_V hm
  · show _ = nI (hyR h)
    simp [jxs_at]; exact jMs_R hm
  · simp [jxs_at]; exact jMs_E hm
  · simp [jxs_at]; exact jMs_S hm ht'
  · simp [jxs_at]; exact jMs_W hm hw
  · simp [jxs_at]; exact jMs_I hm hw
  · simp [jxs_at]; exact ⟨jMs_w hm he, jMs_x hm he, jMs_v hm he, jMs_b hm he⟩
  · simp [jxs_at]; exact jMs_on hm hx'
  · have hj : j < hyon h x' := hj
    have b1 := jHw_on hw hx
    have b2 := jHw_on hw hx'
    show _ = nI (if x' = x ∧ j = i then hyod h x (i + 1) else if x' = x ∧ j = i + 1 then hyod h x i else hyod h x' j)
    rw [jxs_at, jxs_at]
    by_cases q : x' = x
    · subst q
      by_cases z : j = i
      · subst z; rw [if_neg (by omega), if_pos ⟨rfl, rfl, rfl⟩, if_pos ⟨rfl, rfl⟩]
      · by_cases z2 : j = i + 1
        · subst z2; rw [if_pos ⟨rfl, rfl, by omega⟩, if_neg (by omega), if_pos ⟨rfl, rfl⟩]
        · rw [if_neg (by omega), if_neg (by omega), if_neg (by omega), if_neg (by omega)]; exact jMs_od hm hx' hj
    · rw [if_neg (by omega), if_neg (by omega), if_neg (by omega), if_neg (by omega)]; exact jMs_od hm hx' hj
theorem jMs_0 {σ' : jxM} (e1 : σ' 40 0 2 = nI 0) (e2 : σ' 40 0 5 = nI 0) (e3 : σ' 40 0 6 = nI 0) (e4 : ∀ t, t < 8 → σ' 41 0 t = nI 0) (e5 : ∀ x, x < 6 → σ' 48 0 x = nI 0) : jMs jh0 jv0 σ' := by
  have z : ∀ i, ¬ i < 0 := fun i hi => by omega
  exact ⟨e1, e2, e3, fun t ht => e4 t ht, fun w hw => absurd hw (z w), fun e he => absurd he (z e), fun x hx => e5 x hx, fun x i hx hi => absurd hi (z i)⟩
/-- t's last version of x is one of the first k -/
def jlk (h : jH) (t x k : Nat) : Bool := match hylt h t x with
  | some w => decide (w < k)
  | none => false
/-- a commit's versions up to k stand in the orders -/
def jMk (h : jH) (v : jV) (t k : Nat) (σ : jxM) : Prop :=
  σ 40 0 2 = nI (hyV h) ∧ σ 40 0 5 = nI (hyR h) ∧ σ 40 0 6 = nI (evE v) ∧ (∀ t', t' < 8 → σ 41 0 t' = nI (jup (hyS h) t 2 t')) ∧ (∀ w, w < hyV h → σ 42 0 w = nI (hyW h w) ∧ σ 43 0 w = nI (hyI h w)) ∧
  (∀ e, e < evE v → σ 44 0 e = nI (evw v e) ∧ σ 45 0 e = nI (evx v e) ∧ σ 46 0 e = vI (evv v e) ∧ σ 47 0 e = jB (evb v e)) ∧
  (∀ x, x < 6 → σ 48 0 x = nI (if jlk h t x k then hyon h x + 1 else hyon h x)) ∧ (∀ x i, x < 6 → i < hyon h x → σ 49 0 (8 * x + i) = nI (hyod h x i)) ∧ (∀ x, x < 6 → jlk h t x k = true → σ 49 0 (8 * x + hyon h x) = vI (hylt h t x))
theorem jMk_mv {t k : Nat} (q : jMk h v t k σ) : jMv h σ := ⟨q.1, q.2.2.2.2.1⟩
theorem jlk_0 {t x : Nat} : jlk h t x 0 = false := by unfold jlk; cases hylt h t x <;> simp
theorem jMk_0 {t : Nat} (hm : jMs (jend h t 2) v σ) : jMk h v t 0 σ := by
  obtain ⟨a, b, c, d, e, f, g, i⟩ := hm
  exact ⟨a, b, c, d, e, f, fun x hx => by rw [jlk_0]; exact g x hx, i, fun x _ q => by rw [jlk_0] at q; cases q⟩
theorem jlk_no {t x k : Nat} (hne : hylt h t x ≠ some k) : jlk h t x (k + 1) = jlk h t x k := by
  unfold jlk
  cases e : hylt h t x with
  | none => rfl
  | some w =>
    have : w ≠ k := fun q => hne (by rw [e, q])
    show decide (w < k + 1) = decide (w < k)
    rw [Bool.eq_iff_iff, decide_eq_true_eq, decide_eq_true_eq]
    omega
theorem jMk_no {t k : Nat} (q : jMk h v t k σ) (hne : ∀ x, x < 6 → hylt h t x ≠ some k) : jMk h v t (k + 1) σ := by
  obtain ⟨a, b, c, d, e, f, g, i, j⟩ := q
  exact ⟨a, b, c, d, e, f, fun x hx => by rw [jlk_no (hne x hx)]; exact g x hx, i, fun x hx z => by rw [jlk_no (hne x hx)] at z; exact j x hx z⟩
theorem jMk_yes {t k x : Nat} (hw : jHw h) (q : jMk h v t k σ) (hx : x < 6) (h8 : ∀ x, x < 6 → hyon h x < 8) (he : hylt h t x = some k) (ho : ∀ x', x' < 6 → x' ≠ x → hylt h t x' ≠ some k) : jMk h v t (k + 1) (jxs (jxs σ 49 0 (8 * x + hyon h x) (nI k)) 48 0 x (nI (hyon h x) + nI 1)) := by
  obtain ⟨a, b, c, d, e, f, g, i, j⟩ := q
  have b1 := h8 x hx
  have y1 : jlk h t x (k + 1) = true := by unfold jlk; rw [he]; simp
  refine ⟨?_, ?_, ?_, fun t' ht' => ?_, fun w hw => ⟨?_, ?_⟩, fun e1 he1 => ?_, fun x' hx' => ?_, fun x' i1 hx' hi1 => ?_, fun x' hx' z => ?_⟩
  · simp [jxs_at]; exact a
  · simp [jxs_at]; exact b
  · simp [jxs_at]; exact c
  · simp [jxs_at]; exact d t' ht'
  · simp [jxs_at]; exact (e w hw).1
  · simp [jxs_at]; exact (e w hw).2
  · simp [jxs_at]; exact f e1 he1
  · rw [jxs_at]
    by_cases z : x' = x
    · subst z; rw [if_pos ⟨rfl, rfl, rfl⟩, y1, if_pos rfl, nI_add]
    · rw [if_neg (fun q => z q.2.2), jxs_g _ _ _ _ _ (by decide), jlk_no (ho x' hx' z)]; exact g x' hx'
  · have := h8 x' hx'
    have ne : ¬ (8 * x' + i1 = 8 * x + hyon h x) := fun q => by
      have : x' = x := by omega
      subst this
      omega
    rw [jxs_g _ _ _ _ _ (by decide), jxs_at, if_neg (fun q => ne q.2.2)]
    exact i x' i1 hx' hi1
  · have := h8 x' hx'
    rw [jxs_g _ _ _ _ _ (by decide), jxs_at]
    by_cases y : x' = x
    · subst y; rw [if_pos ⟨rfl, rfl, rfl⟩, he]; rfl
    · rw [if_neg (by omega)]
      rw [jlk_no (ho x' hx' y)] at z
      exact j x' hx' z
theorem jMk_end {t : Nat} (hw : jHw h) (ht : t < 8) (q : jMk h v t (hyV h) σ) : jMs (jcomP h t 6) v σ := by
  obtain ⟨a, b, c, d, e, f, g, i, j⟩ := q
  have lk : ∀ x, x < 6 → jlk h t x (hyV h) = (hylt h t x).isSome := fun x hx => by
    unfold jlk
    cases q : hylt h t x with
    | none => rfl
    | some w => exact decide_eq_true (jHw_lt hw ht hx q).1
  refine ⟨a, b, c, d, e, f, fun x hx => ?_, fun x i1 hx hi1 => ?_⟩
  · show _ = nI (if x < 6 ∧ (hylt h t x).isSome = true then hyon h x + 1 else hyon h x)
    rw [g x hx, lk x hx]
    by_cases z : (hylt h t x).isSome = true
    · rw [if_pos z, if_pos ⟨hx, z⟩]
    · rw [if_neg z, if_neg (fun q => z q.2)]
  · have hi1 : i1 < if x < 6 ∧ (hylt h t x).isSome = true then hyon h x + 1 else hyon h x := hi1
    show _ = nI (if x < 6 ∧ i1 = hyon h x then (hylt h t x).getD (hyod h x i1) else hyod h x i1)
    by_cases z : i1 = hyon h x
    · subst z
      by_cases y : (hylt h t x).isSome = true
      · rw [if_pos ⟨hx, rfl⟩, j x hx (by rw [lk x hx]; exact y)]
        cases q : hylt h t x with
        | none => rw [q] at y; cases y
        | some w => rfl
      · rw [if_neg (fun q => y q.2)] at hi1; omega
    · rw [if_neg (fun q => z q.2)]
      refine i x i1 hx ?_
      split at hi1 <;> omega
end JRM
