/-! The history's moves, purely: a write, a read, a commit, an exchange, a new beginning; what the cells hold behind them. -/
def jup {α : Type} (f : Nat → α) (k : Nat) (v : α) : Nat → α := fun j => if j = k then v else f j
def jh0 : jH := (fun _ => 0, 0, fun _ => 0, fun _ => 0, 0, fun _ => 0, fun _ => 0, fun _ => none, fun _ => none, fun _ _ => none, fun _ => 0, fun _ _ => 0)
def jaddV (h : jH) (t x : Nat) : jH := (jup (hyS h) t 1, hyV h + 1, jup (hyW h) (hyV h) t, jup (hyI h) (hyV h) x, hyR h, hyrd h, hyri h, hyrv h, hyro h, (fun t' x' => if t' = t ∧ x' = x then some (hyV h) else hylt h t' x'), hyon h, hyod h)
def jaddR (h : jH) (t x : Nat) (o : Option Nat) : jH := (jup (hyS h) t 1, hyV h, hyW h, hyI h, hyR h + 1, jup (hyrd h) (hyR h) t, jup (hyri h) (hyR h) x, jup (hyrv h) (hyR h) o, jup (hyro h) (hyR h) (hylt h t x), hylt h, hyon h, hyod h)
def jcomP (h : jH) (t k : Nat) : jH := (jup (hyS h) t 2, hyV h, hyW h, hyI h, hyR h, hyrd h, hyri h, hyrv h, hyro h, hylt h, (fun x => if x < k ∧ (hylt h t x).isSome = true then hyon h x + 1 else hyon h x), (fun x i => if x < k ∧ i = hyon h x then (hylt h t x).getD (hyod h x i) else hyod h x i))
def jend (h : jH) (t s : Nat) : jH := (jup (hyS h) t s, hyV h, hyW h, hyI h, hyR h, hyrd h, hyri h, hyrv h, hyro h, hylt h, hyon h, hyod h)
def jexc (h : jH) (x i : Nat) : jH := (hyS h, hyV h, hyW h, hyI h, hyR h, hyrd h, hyri h, hyrv h, hyro h, hylt h, hyon h, (fun x' j => if x' = x ∧ j = i then hyod h x (i + 1) else if x' = x ∧ j = i + 1 then hyod h x i else hyod h x' j))
theorem jcomP_0 (h : jH) (t : Nat) : jcomP h t 0 = jend h t 2 := by simp [jcomP, jend]
theorem jcomP_no {h : jH} {t k : Nat} (e : hylt h t k = none) : jcomP h t (k + 1) = jcomP h t k := by
  unfold jcomP
  have e1 : (fun x => if x < k + 1 ∧ (hylt h t x).isSome = true then hyon h x + 1 else hyon h x) = (fun x => if x < k ∧ (hylt h t x).isSome = true then hyon h x + 1 else hyon h x) := by
    funext x
    by_cases q : x = k
    · subst q; simp [e]
    · by_cases z : x < k
      · simp [z, Nat.lt_succ_of_lt z]
      · have : ¬ x < k + 1 := by omega
        simp [z, this]
  have e2 : (fun x i => if x < k + 1 ∧ i = hyon h x then (hylt h t x).getD (hyod h x i) else hyod h x i) = (fun x i => if x < k ∧ i = hyon h x then (hylt h t x).getD (hyod h x i) else hyod h x i) := by
    funext x i
    by_cases q : x = k
    · subst q; simp [e]
    · by_cases z : x < k
      · simp [z, Nat.lt_succ_of_lt z]
      · have : ¬ x < k + 1 := by omega
        simp [z, this]
  rw [e1, e2]
theorem jHs_0 {σ σ' : jxM} (e : σ' = fun g r j => if g = 10 ∧ r < 8 ∧ j < 6 then -1 else jfl (jfl (jxs (jxs σ 1 0 3 (nI 0)) 1 0 8 (nI 0)) 2 0 8 (nI 0)) 13 0 6 (nI 0) g r j) : jHs jh0 σ' := by
  subst e
  refine ⟨?_, ?_, fun t ht => ?_, fun v hv => absurd hv (Nat.not_lt_zero _), fun r hr => absurd hr (Nat.not_lt_zero _), fun t x ht hx => ?_, fun x hx => ?_, fun x i hx hi => absurd hi (Nat.not_lt_zero _)⟩
  · simp [jfl, jxs_at]; rfl
  · simp [jfl, jxs_at]; rfl
  · simp [jfl, ht]; rfl
  · simp [ht, hx]; rfl
  · simp [jfl, hx]; rfl
section JMV
variable {h : jH} {σ : jxM}
theorem jHs_addV (hs : jHs h σ) {t x : Nat} : jHs (jaddV h t x) (jxs (jxs (jxs (jxs (jxs σ 3 0 (hyV h) (nI t)) 4 0 (hyV h) (nI x)) 10 t x (nI (hyV h))) 2 0 t (nI 1)) 1 0 3 (nI (hyV h + 1))) := by
  refine ⟨?_, ?_, fun t' ht' => ?_, fun v hv => ⟨?_, ?_⟩, fun r hr => ⟨?_, ?_, ?_, ?_⟩, fun t' x' ht' hx' => ?_, fun x' hx' => ?_, fun x' i' hx' hi' => ?_⟩
  · show _ = nI (hyV h + 1)
    simp [jxs_at]
  · show _ = nI (hyR h)
    simp [jxs_at]
    exact jHs_R hs
  · show _ = nI (jup (hyS h) t 1 t')
    by_cases e : t' = t
    · subst e; simp [jxs_at, jup]
    · simp [jxs_at, jup, e]; exact jHs_S hs ht'
  · have hz : v < hyV h + 1 := hv
    show _ = nI (jup (hyW h) (hyV h) (t) v)
    by_cases e : v = hyV h
    · subst e; simp [jxs_at, jup]
    · simp [jxs_at, jup, e]; exact jHs_W hs (by omega)
  · have hz : v < hyV h + 1 := hv
    show _ = nI (jup (hyI h) (hyV h) (x) v)
    by_cases e : v = hyV h
    · subst e; simp [jxs_at, jup]
    · simp [jxs_at, jup, e]; exact jHs_I hs (by omega)
  · show _ = nI (hyrd h r)
    simp [jxs_at]
    exact jHs_rd hs hr
  · show _ = nI (hyri h r)
    simp [jxs_at]
    exact jHs_ri hs hr
  · show _ = vI (hyrv h r)
    simp [jxs_at]
    exact jHs_rv hs hr
  · show _ = vI (hyro h r)
    simp [jxs_at]
    exact jHs_ro hs hr
  · show _ = vI (if t' = t ∧ x' = x then some (hyV h) else hylt h t' x')
    by_cases e : t' = t ∧ x' = x
    · obtain ⟨rfl, rfl⟩ := e; simp [jxs_at, vI]
    · have e2 : ¬ (True ∧ t' = t ∧ x' = x) := fun q => e q.2
      simp only [jxs_at]
      rw [if_neg (by omega), if_neg (by omega), if_neg e2, if_neg (by omega), if_neg (by omega), if_neg e]
      exact jHs_lt hs ht' hx'
  · show _ = nI (hyon h x')
    simp [jxs_at]
    exact jHs_on hs hx'
  · show _ = nI (hyod h x' i')
    simp [jxs_at]
    exact jHs_od hs hx' hi'
theorem jHs_addR (hs : jHs h σ) {t x : Nat} {o : Option Nat} : jHs (jaddR h t x o) (jxs (jxs (jxs (jxs (jxs (jxs σ 5 0 (hyR h) (nI t)) 6 0 (hyR h) (nI x)) 7 0 (hyR h) (vI o)) 8 0 (hyR h) (vI (hylt h t x))) 2 0 t (nI 1)) 1 0 8 (nI (hyR h + 1))) := by
  refine ⟨?_, ?_, fun t' ht' => ?_, fun v hv => ⟨?_, ?_⟩, fun r hr => ⟨?_, ?_, ?_, ?_⟩, fun t' x' ht' hx' => ?_, fun x' hx' => ?_, fun x' i' hx' hi' => ?_⟩
  · show _ = nI (hyV h)
    simp [jxs_at]
    exact jHs_V hs
  · show _ = nI (hyR h + 1)
    simp [jxs_at]
  · show _ = nI (jup (hyS h) t 1 t')
    by_cases e : t' = t
    · subst e; simp [jxs_at, jup]
    · simp [jxs_at, jup, e]; exact jHs_S hs ht'
  · show _ = nI (hyW h v)
    simp [jxs_at]
    exact jHs_W hs hv
  · show _ = nI (hyI h v)
    simp [jxs_at]
    exact jHs_I hs hv
  · have hz : r < hyR h + 1 := hr
    show _ = nI (jup (hyrd h) (hyR h) (t) r)
    by_cases e : r = hyR h
    · subst e; simp [jxs_at, jup]
    · simp [jxs_at, jup, e]; exact jHs_rd hs (by omega)
  · have hz : r < hyR h + 1 := hr
    show _ = nI (jup (hyri h) (hyR h) (x) r)
    by_cases e : r = hyR h
    · subst e; simp [jxs_at, jup]
    · simp [jxs_at, jup, e]; exact jHs_ri hs (by omega)
  · have hz : r < hyR h + 1 := hr
    show _ = vI (jup (hyrv h) (hyR h) (o) r)
    by_cases e : r = hyR h
    · subst e; simp [jxs_at, jup]
    · simp [jxs_at, jup, e]; exact jHs_rv hs (by omega)
  · have hz : r < hyR h + 1 := hr
    show _ = vI (jup (hyro h) (hyR h) (hylt h t x) r)
    by_cases e : r = hyR h
    · subst e; simp [jxs_at, jup]
    · simp [jxs_at, jup, e]; exact jHs_ro hs (by omega)
  · show _ = vI (hylt h t' x')
    simp [jxs_at]
    exact jHs_lt hs ht' hx'
  · show _ = nI (hyon h x')
    simp [jxs_at]
    exact jHs_on hs hx'
  · show _ = nI (hyod h x' i')
    simp [jxs_at]
    exact jHs_od hs hx' hi'
theorem jHs_end (hs : jHs h σ) {t s : Nat} : jHs (jend h t s) (jxs σ 2 0 t (nI s)) := by
  refine ⟨?_, ?_, fun t' ht' => ?_, fun v hv => ⟨?_, ?_⟩, fun r hr => ⟨?_, ?_, ?_, ?_⟩, fun t' x' ht' hx' => ?_, fun x' hx' => ?_, fun x' i' hx' hi' => ?_⟩
  · show _ = nI (hyV h)
    simp [jxs_at]
    exact jHs_V hs
  · show _ = nI (hyR h)
    simp [jxs_at]
    exact jHs_R hs
  · show _ = nI (jup (hyS h) t s t')
    by_cases e : t' = t
    · subst e; simp [jxs_at, jup]
    · simp [jxs_at, jup, e]; exact jHs_S hs ht'
  · show _ = nI (hyW h v)
    simp [jxs_at]
    exact jHs_W hs hv
  · show _ = nI (hyI h v)
    simp [jxs_at]
    exact jHs_I hs hv
  · show _ = nI (hyrd h r)
    simp [jxs_at]
    exact jHs_rd hs hr
  · show _ = nI (hyri h r)
    simp [jxs_at]
    exact jHs_ri hs hr
  · show _ = vI (hyrv h r)
    simp [jxs_at]
    exact jHs_rv hs hr
  · show _ = vI (hyro h r)
    simp [jxs_at]
    exact jHs_ro hs hr
  · show _ = vI (hylt h t' x')
    simp [jxs_at]
    exact jHs_lt hs ht' hx'
  · show _ = nI (hyon h x')
    simp [jxs_at]
    exact jHs_on hs hx'
  · show _ = nI (hyod h x' i')
    simp [jxs_at]
    exact jHs_od hs hx' hi'
theorem jHs_com {t k v : Nat} (hs : jHs (jcomP h t k) σ) (e : hylt h t k = some v) : jHs (jcomP h t (k + 1)) (jxs (jxs σ 12 k (hyon h k) (nI v)) 13 0 k (nI (hyon h k + 1))) := by
  have on1 : ∀ x, hyon (jcomP h t (k + 1)) x = if x = k then hyon h k + 1 else hyon (jcomP h t k) x := by
    intro x
    show (if x < k + 1 ∧ (hylt h t x).isSome = true then hyon h x + 1 else hyon h x) = if x = k then hyon h k + 1 else (if x < k ∧ (hylt h t x).isSome = true then hyon h x + 1 else hyon h x)
    by_cases q : x = k
    · subst q; simp [e]
    · by_cases z : x < k
      · simp [q, z, Nat.lt_succ_of_lt z]
      · have : ¬ x < k + 1 := by omega
        simp [q, z, this]
  have od1 : ∀ x i, hyod (jcomP h t (k + 1)) x i = if x = k ∧ i = hyon h k then v else hyod (jcomP h t k) x i := by
    intro x i
    show (if x < k + 1 ∧ i = hyon h x then (hylt h t x).getD (hyod h x i) else hyod h x i) = if x = k ∧ i = hyon h k then v else (if x < k ∧ i = hyon h x then (hylt h t x).getD (hyod h x i) else hyod h x i)
    by_cases q : x = k
    · subst q
      by_cases z : i = hyon h x <;> simp [e, z]
    · by_cases z : x < k
      · simp [q, z, Nat.lt_succ_of_lt z]
      · have : ¬ x < k + 1 := by omega
        simp [q, z, this]
  have onk : hyon (jcomP h t k) k = hyon h k := by
    show (if k < k ∧ _ then _ else _) = _
    simp
  refine ⟨?_, ?_, fun t' ht' => ?_, fun v hv => ⟨?_, ?_⟩, fun r hr => ⟨?_, ?_, ?_, ?_⟩, fun t' x' ht' hx' => ?_, fun x' hx' => ?_, fun x' i hx' hi => ?_⟩
  · show _ = nI (hyV (jcomP h t k))
    simp [jxs_at]; exact jHs_V hs
  · show _ = nI (hyR (jcomP h t k))
    simp [jxs_at]; exact jHs_R hs
  · simp [jxs_at]; exact jHs_S hs ht'
  · simp [jxs_at]; exact jHs_W hs hv
  · simp [jxs_at]; exact jHs_I hs hv
  · simp [jxs_at]; exact jHs_rd hs hr
  · simp [jxs_at]; exact jHs_ri hs hr
  · simp [jxs_at]; exact jHs_rv hs hr
  · simp [jxs_at]; exact jHs_ro hs hr
  · simp [jxs_at]; exact jHs_lt hs ht' hx'
  · rw [on1]
    by_cases q : x' = k
    · subst q; simp [jxs_at]
    · simp [jxs_at, q]; exact jHs_on hs hx'
  · rw [on1] at hi
    rw [od1]
    by_cases q : x' = k
    · subst q
      rw [if_pos rfl] at hi
      by_cases z : i = hyon h x'
      · simp [jxs_at, z]
      · simp [jxs_at, z]
        exact jHs_od hs hx' (by rw [onk]; omega)
    · rw [if_neg q] at hi
      simp [jxs_at, q]; exact jHs_od hs hx' hi
theorem jHs_exc (hs : jHs h σ) {x i : Nat} (hi : i + 1 < hyon h x) : jHs (jexc h x i) (jxs (jxs σ 12 x i (nI (hyod h x (i + 1)))) 12 x (i + 1) (nI (hyod h x i))) := by
  refine ⟨?_, ?_, fun t' ht' => ?_, fun v hv => ⟨?_, ?_⟩, fun r hr => ⟨?_, ?_, ?_, ?_⟩, fun t' x' ht' hx' => ?_, fun x' hx' => ?_, fun x' j hx' hj => ?_⟩
  · show _ = nI (hyV h)
    simp [jxs_at]; exact jHs_V hs
  · show _ = nI (hyR h)
    simp [jxs_at]; exact jHs_R hs
  · simp [jxs_at]; exact jHs_S hs ht'
  · simp [jxs_at]; exact jHs_W hs hv
  · simp [jxs_at]; exact jHs_I hs hv
  · simp [jxs_at]; exact jHs_rd hs hr
  · simp [jxs_at]; exact jHs_ri hs hr
  · simp [jxs_at]; exact jHs_rv hs hr
  · simp [jxs_at]; exact jHs_ro hs hr
  · simp [jxs_at]; exact jHs_lt hs ht' hx'
  · simp [jxs_at]; exact jHs_on hs hx'
  · have hj' : j < hyon h x' := hj
    show _ = nI (if x' = x ∧ j = i then hyod h x (i + 1) else if x' = x ∧ j = i + 1 then hyod h x i else hyod h x' j)
    by_cases q : x' = x
    · subst q
      by_cases z : j = i
      · subst z; simp [jxs_at]
      · by_cases z2 : j = i + 1
        · subst z2; simp [jxs_at]
        · simp [jxs_at, z, z2]; exact jHs_od hs hx' hj'
    · simp [jxs_at, q]; exact jHs_od hs hx' hj'
end JMV
