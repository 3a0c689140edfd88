/-! What a history keeps, and what its events tell, behind every move. -/
/-- one event more -/
def jev (v : jV) (t x : Nat) (o : Option Nat) (b : Bool) : jV := (evE v + 1, jup (evw v) (evE v) t, jup (evx v) (evE v) x, jup (evv v) (evE v) o, jup (evb v) (evE v) b)
def jv0 : jV := (0, fun _ => 0, fun _ => 0, fun _ => none, fun _ => false)
theorem jup_o {α : Type} {f : Nat → α} {k : Nat} {v : α} {j : Nat} (h : j ≠ k) : jup f k v j = f j := if_neg h
theorem jup_s {α : Type} {f : Nat → α} {k : Nat} {v : α} : jup f k v k = v := if_pos rfl
theorem jHw_0 : jHw jh0 := by
  have z : ∀ i, ¬ i < 0 := fun i hi => by omega
  refine ⟨Nat.zero_le _, Nat.zero_le _, fun t ht => (by show 0 < 4; omega), fun v hv => absurd hv (z v), fun r hr => absurd hr (z r), fun t x v _ _ q => (by cases q), fun x hx => ⟨Nat.zero_le _, fun i hi => absurd hi (z i), fun i j hi => absurd hi (z i)⟩⟩
theorem jVc_0 : jVc jh0 jv0 := by
  have z : ∀ i, ¬ i < 0 := fun i hi => by omega
  refine ⟨rfl, fun e he => absurd he (z e), fun e he => absurd he (z e), fun t x => rfl, ⟨fun _ => 0, fun r hr => absurd hr (z r), fun e he => absurd he (z e)⟩, fun w hw => absurd hw (z w)⟩
section JKP
variable {h : jH} {v : jV}
theorem jHw_addV (hw : jHw h) {t x : Nat} (ht : t < 8) (hx : x < 6) (hs : ¬ 1 < hyS h t) (hv : hyV h < 40) : jHw (jaddV h t x) := by
  refine ⟨hv, jHw_R (h := h) hw, fun t' ht' => ?_, fun w hw1 => ?_, fun r hr => ?_, fun t' x' w ht' hx' q => ?_, fun x' hx' => ⟨jHw_on (h := h) hw hx', fun i hi => ?_, fun i j hi hj e => jHw_inj (h := h) hw hx' hi hj e⟩⟩
  · show jup (hyS h) t 1 t' < 4
    by_cases e : t' = t
    · rw [e, jup_s]; omega
    · rw [jup_o e]; exact jHw_S hw ht'
  · have hw1 : w < hyV h + 1 := hw1
    show jup (hyW h) (hyV h) t w < 8 ∧ jup (hyI h) (hyV h) x w < 6
    by_cases e : w = hyV h
    · rw [e, jup_s, jup_s]; exact ⟨ht, hx⟩
    · rw [jup_o e, jup_o e]; exact ⟨jHw_W hw (by omega), jHw_I hw (by omega)⟩
  · refine ⟨jHw_rd hw hr, jHw_ri hw hr, fun w q => ?_, fun w q => ?_, fun w q e => ?_⟩
    · obtain ⟨a, b⟩ := jHw_rv hw hr q
      exact ⟨Nat.lt_succ_of_lt a, by show jup (hyI h) (hyV h) x w = _; rw [jup_o (by omega)]; exact b⟩
    · exact Nat.lt_succ_of_lt (jHw_ro hw hr q)
    · obtain ⟨a, b⟩ := jHw_rv hw hr q
      have e : jup (hyW h) (hyV h) t w = hyrd h r := e
      rw [jup_o (by omega)] at e
      exact (hw.2.2.2.2.1 r hr).2.2.2.2 w q e
  · have q : (if t' = t ∧ x' = x then some (hyV h) else hylt h t' x') = some w := q
    show w < hyV h + 1 ∧ jup (hyW h) (hyV h) t w = t' ∧ jup (hyI h) (hyV h) x w = x'
    by_cases e : t' = t ∧ x' = x
    · rw [if_pos e] at q
      cases q
      rw [jup_s, jup_s]; exact ⟨by omega, e.1.symm, e.2.symm⟩
    · rw [if_neg e] at q
      obtain ⟨a, b, c⟩ := jHw_lt hw ht' hx' q
      rw [jup_o (by omega), jup_o (by omega)]; exact ⟨by omega, b, c⟩
  · obtain ⟨a, b, c, d⟩ := jHw_od hw hx' hi
    have hne : hyW h (hyod h x' i) ≠ t := fun q => by rw [q] at c; omega
    show hyod h x' i < hyV h + 1 ∧ jup (hyI h) (hyV h) x (hyod h x' i) = x' ∧ jup (hyS h) t 1 (jup (hyW h) (hyV h) t (hyod h x' i)) = 2 ∧ (if jup (hyW h) (hyV h) t (hyod h x' i) = t ∧ x' = x then some (hyV h) else hylt h (jup (hyW h) (hyV h) t (hyod h x' i)) x') = some (hyod h x' i)
    rw [jup_o (show hyod h x' i ≠ hyV h by omega), jup_o (show hyod h x' i ≠ hyV h by omega), jup_o hne, if_neg (fun q => hne q.1)]
    exact ⟨by omega, b, c, d⟩
/-- whoever wrote a version has a latest -/
theorem jlt_some (hv : jVc h v) : ∀ (n w : Nat), hyV h - w < n → w < hyV h → hylt h (hyW h w) (hyI h w) ≠ none := by
  intro n
  induction n with
  | zero => intro w h1; omega
  | succ n ih =>
    intro w h1 h2
    by_cases c : ∀ k, w < k → k < hyV h → ¬ (hyW h k = hyW h w ∧ hyI h k = hyI h w)
    · rw [(hv.2.2.2.2.2 w h2).mpr c]; exact fun q => by cases q
    · simp only [Classical.not_forall] at c
      obtain ⟨k, k1, k2, k3⟩ := c
      obtain ⟨k3, k4⟩ := Classical.not_not.mp k3
      have := ih k (by omega) k2
      rw [k3, k4] at this
      exact this
theorem jHw_addR (hw : jHw h) (hv : jVc h v) {t x : Nat} {o : Option Nat} (ht : t < 8) (hx : x < 6) (hs : ¬ 1 < hyS h t) (hr : hyR h < 60) (ho : ∀ w, o = some w → w < hyV h ∧ hyI h w = x) : jHw (jaddR h t x o) := by
  refine ⟨jHw_V (h := h) hw, hr, fun t' ht' => ?_, fun w hw1 => ⟨jHw_W (h := h) hw hw1, jHw_I (h := h) hw hw1⟩, fun r hr => ?_, fun t' x' w ht' hx' q => jHw_lt (h := h) hw ht' hx' q, fun x' hx' => ⟨jHw_on (h := h) hw hx', fun i hi => ?_, fun i j hi hj e => jHw_inj (h := h) hw hx' hi hj e⟩⟩
  · show jup (hyS h) t 1 t' < 4
    by_cases e : t' = t
    · rw [e, jup_s]; omega
    · rw [jup_o e]; exact jHw_S hw ht'
  · have hr : r < hyR h + 1 := hr
    show jup (hyrd h) (hyR h) t r < 8 ∧ jup (hyri h) (hyR h) x r < 6 ∧ (∀ w, jup (hyrv h) (hyR h) o r = some w → w < hyV h ∧ hyI h w = jup (hyri h) (hyR h) x r) ∧ (∀ w, jup (hyro h) (hyR h) (hylt h t x) r = some w → w < hyV h) ∧ (∀ w, jup (hyrv h) (hyR h) o r = some w → hyW h w = jup (hyrd h) (hyR h) t r → jup (hyro h) (hyR h) (hylt h t x) r ≠ none)
    by_cases e : r = hyR h
    · subst e
      simp only [jup_s]
      refine ⟨ht, hx, ho, fun w q => (jHw_lt hw ht hx q).1, fun w q e => ?_⟩
      obtain ⟨a, b⟩ := ho w q
      have := jlt_some hv _ w (Nat.lt_succ_self _) a
      rw [e, b] at this
      exact this
    · simp only [jup_o e]
      have hr2 : r < hyR h := by omega
      exact hw.2.2.2.2.1 r hr2
  · obtain ⟨a, b, c, d⟩ := jHw_od hw hx' hi
    have hne : hyW h (hyod h x' i) ≠ t := fun q => by rw [q] at c; omega
    show _ ∧ _ ∧ jup (hyS h) t 1 (hyW h (hyod h x' i)) = 2 ∧ _
    rw [jup_o hne]
    exact ⟨a, b, c, d⟩
theorem jHw_end (hw : jHw h) {t s : Nat} (hs : hyS h t = 1) (h4 : s < 4) : jHw (jend h t s) := by
  refine ⟨jHw_V (h := h) hw, jHw_R (h := h) hw, fun t' ht' => ?_, fun w hw1 => ⟨jHw_W (h := h) hw hw1, jHw_I (h := h) hw hw1⟩, fun r hr => hw.2.2.2.2.1 r hr, fun t' x' w ht' hx' q => jHw_lt (h := h) hw ht' hx' q, fun x' hx' => ⟨jHw_on (h := h) hw hx', fun i hi => ?_, fun i j hi hj e => jHw_inj (h := h) hw hx' hi hj e⟩⟩
  · show jup (hyS h) t s t' < 4
    by_cases e : t' = t
    · rw [e, jup_s]; omega
    · rw [jup_o e]; exact jHw_S hw ht'
  · obtain ⟨a, b, c, d⟩ := jHw_od hw hx' hi
    have hne : hyW h (hyod h x' i) ≠ t := fun q => by rw [q] at c; omega
    show _ ∧ _ ∧ jup (hyS h) t s (hyW h (hyod h x' i)) = 2 ∧ _
    rw [jup_o hne]
    exact ⟨a, b, c, d⟩
/-- an item's order has room for one more -/
theorem jon_lt (hw : jHw h) {t : Nat} (ht : t < 8) (hs : hyS h t ≠ 2) {x : Nat} (hx : x < 6) : hyon h x < 8 := by
  have := jct_bd (hyon h x + 1) (fun _ => true) (fun i => if i = hyon h x then t else hyW h (hyod h x i)) (fun i hi => by
    by_cases e : i = hyon h x
    · simp only [e, if_true]; exact ⟨ht, trivial⟩
    · simp only [e, if_false]; exact ⟨jHw_W hw (jHw_od hw hx (by omega)).1, trivial⟩) (fun i j hi hj q => by
    have nt : ∀ i, i < hyon h x → hyW h (hyod h x i) ≠ t := fun i hi e => hs (by rw [← e]; exact (jHw_od hw hx hi).2.2.1)
    by_cases e : i = hyon h x
    · by_cases f : j = hyon h x
      · omega
      · simp only [e, if_true, f, if_false] at q; exact absurd q.symm (nt j (by omega))
    · by_cases f : j = hyon h x
      · simp only [e, if_false, f, if_true] at q; exact absurd q (nt i (by omega))
      · simp only [e, f, if_false] at q
        have a := (jHw_od hw hx (show i < hyon h x by omega)).2.2.2
        have b := (jHw_od hw hx (show j < hyon h x by omega)).2.2.2
        rw [q, b] at a
        exact jHw_inj hw hx (by omega) (by omega) (Option.some.inj a).symm)
  have e8 : jct (fun _ => true) = 8 := rfl
  omega
theorem jHw_com (hw : jHw h) {t : Nat} (ht : t < 8) (hs : hyS h t = 1) : jHw (jcomP h t 6) := by
  refine ⟨jHw_V (h := h) hw, jHw_R (h := h) hw, fun t' ht' => ?_, fun w hw1 => ⟨jHw_W (h := h) hw hw1, jHw_I (h := h) hw hw1⟩, fun r hr => hw.2.2.2.2.1 r hr, fun t' x' w ht' hx' q => jHw_lt (h := h) hw ht' hx' q, fun x hx => ?_⟩
  · show jup (hyS h) t 2 t' < 4
    by_cases e : t' = t
    · rw [e, jup_s]; omega
    · rw [jup_o e]; exact jHw_S hw ht'
  · have h8 := jon_lt hw ht (by omega) hx
    have nt : ∀ i, i < hyon h x → hyW h (hyod h x i) ≠ t := fun i hi e => by have := (jHw_od hw hx hi).2.2.1; rw [e] at this; omega
    have onE : hyon (jcomP h t 6) x = if x < 6 ∧ (hylt h t x).isSome = true then hyon h x + 1 else hyon h x := rfl
    have odE : ∀ i, hyod (jcomP h t 6) x i = if x < 6 ∧ i = hyon h x then (hylt h t x).getD (hyod h x i) else hyod h x i := fun i => rfl
    have old : ∀ i, i < hyon h x → hyod (jcomP h t 6) x i = hyod h x i := fun i hi => by rw [odE, if_neg (by omega)]
    have oldp : ∀ i, i < hyon h x → hyod (jcomP h t 6) x i < hyV h ∧ hyI h (hyod (jcomP h t 6) x i) = x ∧ hyS (jcomP h t 6) (hyW h (hyod (jcomP h t 6) x i)) = 2 ∧ hylt h (hyW h (hyod (jcomP h t 6) x i)) x = some (hyod (jcomP h t 6) x i) := fun i hi => by
      rw [old i hi]
      obtain ⟨a, b, c, d⟩ := jHw_od hw hx hi
      refine ⟨a, b, ?_, d⟩
      show jup (hyS h) t 2 (hyW h (hyod h x i)) = 2
      rw [jup_o (nt i hi)]
      exact c
    cases hl : hylt h t x with
    | none =>
      have on1 : hyon (jcomP h t 6) x = hyon h x := by rw [onE, hl]; exact if_neg (fun q => by cases q.2)
      rw [on1]
      exact ⟨jHw_on hw hx, fun i hi => oldp i hi, fun i j hi hj e => jHw_inj hw hx hi hj (by rw [← old i hi, ← old j hj]; exact e)⟩
    | some w =>
      have on1 : hyon (jcomP h t 6) x = hyon h x + 1 := by rw [onE, hl]; exact if_pos ⟨hx, rfl⟩
      have new : hyod (jcomP h t 6) x (hyon h x) = w := by rw [odE, if_pos ⟨hx, rfl⟩, hl]; rfl
      obtain ⟨a, b, c⟩ := jHw_lt hw ht hx hl
      rw [on1]
      refine ⟨h8, fun i hi => ?_, fun i j hi hj e => ?_⟩
      · by_cases z : i = hyon h x
        · subst z
          show hyod (jcomP h t 6) x (hyon h x) < hyV h ∧ hyI h (hyod (jcomP h t 6) x (hyon h x)) = x ∧ jup (hyS h) t 2 (hyW h (hyod (jcomP h t 6) x (hyon h x))) = 2 ∧ hylt h (hyW h (hyod (jcomP h t 6) x (hyon h x))) x = some (hyod (jcomP h t 6) x (hyon h x))
          rw [new, b, jup_s]
          exact ⟨a, c, rfl, hl⟩
        · exact oldp i (by omega)
      · by_cases z : i = hyon h x
        · by_cases y : j = hyon h x
          · omega
          · exfalso
            rw [z, new, old j (by omega)] at e
            exact nt j (by omega) (by rw [← e]; exact b)
        · by_cases y : j = hyon h x
          · exfalso
            rw [y, new, old i (by omega)] at e
            exact nt i (by omega) (by rw [e]; exact b)
          · exact jHw_inj hw hx (by omega) (by omega) (by rw [← old i (by omega), ← old j (by omega)]; exact e)
theorem jHw_exc (hw : jHw h) {x i : Nat} (hi : i + 1 < hyon h x) : jHw (jexc h x i) := by
  refine ⟨jHw_V (h := h) hw, jHw_R (h := h) hw, fun t' ht' => jHw_S (h := h) hw ht', fun w hw1 => ⟨jHw_W (h := h) hw hw1, jHw_I (h := h) hw hw1⟩, fun r hr => hw.2.2.2.2.1 r hr, fun t' x' w ht' hx' q => jHw_lt (h := h) hw ht' hx' q, fun x' hx' => ?_⟩
  -- the place from which the version at j now comes
  have fr : ∀ j, j < hyon h x' → ∃ k, k < hyon h x' ∧ hyod (jexc h x i) x' j = hyod h x' k ∧ k = (if x' = x ∧ j = i then i + 1 else if x' = x ∧ j = i + 1 then i else j) := fun j hj => by
    have odE : hyod (jexc h x i) x' j = if x' = x ∧ j = i then hyod h x (i + 1) else if x' = x ∧ j = i + 1 then hyod h x i else hyod h x' j := rfl
    rw [odE]
    by_cases a : x' = x ∧ j = i
    · refine ⟨i + 1, ?_, ?_, ?_⟩
      · rw [a.1]; exact hi
      · rw [if_pos a, a.1]
      · rw [if_pos a]
    · by_cases b : x' = x ∧ j = i + 1
      · refine ⟨i, ?_, ?_, ?_⟩
        · rw [b.1]; omega
        · rw [if_neg a, if_pos b, b.1]
        · rw [if_neg a, if_pos b]
      · exact ⟨j, hj, by rw [if_neg a, if_neg b], by rw [if_neg a, if_neg b]⟩
  refine ⟨jHw_on (h := h) hw hx', fun j hj => ?_, fun j j2 hj hj2 e => ?_⟩
  · obtain ⟨k, k1, k2, -⟩ := fr j hj
    rw [k2]
    exact jHw_od hw hx' k1
  · obtain ⟨k, k1, k2, k3⟩ := fr j hj
    obtain ⟨m, m1, m2, m3⟩ := fr j2 hj2
    rw [k2, m2] at e
    have := jHw_inj hw hx' k1 m1 e
    rw [k3, m3] at this
    by_cases q : x' = x
    · simp only [q, true_and] at this
      split at this <;> split at this <;> (try split at this) <;> (try split at this) <;> omega
    · simp only [q, false_and, if_false] at this
      exact this
theorem jlw_ext {v' : jV} {t x : Nat} : ∀ e, (∀ k, k < e → evb v' k = evb v k ∧ evw v' k = evw v k ∧ evx v' k = evx v k ∧ evv v' k = evv v k) → jlw v' t x e = jlw v t x e
  | 0, _ => rfl
  | e + 1, q => by
    obtain ⟨a, b, c, d⟩ := q e (by omega)
    rw [jlw, jlw, a, b, c, d, jlw_ext e (fun k hk => q k (by omega))]
theorem jev_o {t x : Nat} {o : Option Nat} {b : Bool} {k : Nat} (hk : k < evE v) : evb (jev v t x o b) k = evb v k ∧ evw (jev v t x o b) k = evw v k ∧ evx (jev v t x o b) k = evx v k ∧ evv (jev v t x o b) k = evv v k :=
  ⟨jup_o (by omega), jup_o (by omega), jup_o (by omega), jup_o (by omega)⟩
theorem jev_s {t x : Nat} {o : Option Nat} {b : Bool} : evb (jev v t x o b) (evE v) = b ∧ evw (jev v t x o b) (evE v) = t ∧ evx (jev v t x o b) (evE v) = x ∧ evv (jev v t x o b) (evE v) = o := ⟨jup_s, jup_s, jup_s, jup_s⟩
theorem jlw_ev {t x : Nat} {o : Option Nat} {b : Bool} {t' x' e : Nat} (he : e ≤ evE v) : jlw (jev v t x o b) t' x' e = jlw v t' x' e := jlw_ext e (fun k hk => jev_o (by omega))
theorem jVc_addV (hv : jVc h v) {t x : Nat} (ht : t < 8) (hx : x < 6) : jVc (jaddV h t x) (jev v t x (some (hyV h)) true) := by
  obtain ⟨s1, s2, s3, s4⟩ := jev_s (v := v) (t := t) (x := x) (o := some (hyV h)) (b := true)
  have hE : evE (jev v t x (some (hyV h)) true) = evE v + 1 := rfl
  have key : ∀ e, e < evE v + 1 → e ≠ evE v → e < evE v := fun e h1 h2 => by omega
  refine ⟨?_, fun e he => ?_, fun e he => ?_, fun t' x' => ?_, ?_, fun w hw => ?_⟩
  · show evE v + 1 = hyV h + 1 + hyR h
    have := hv.1; omega
  · rw [hE] at he
    by_cases z : e = evE v
    · subst z; rw [s2, s3, s4]; exact ⟨ht, hx, fun w q => by cases q; exact Nat.lt_succ_self _⟩
    · obtain ⟨-, b, c, d⟩ := jev_o (v := v) (t := t) (x := x) (o := some (hyV h)) (b := true) (key e he z)
      rw [b, c, d]
      exact ⟨jVc_w hv (key e he z), jVc_x hv (key e he z), fun w q => Nat.lt_succ_of_lt (jVc_v hv (key e he z) q)⟩
  · rw [hE] at he
    by_cases z : e = evE v
    · subst z; rw [s4]; exact fun _ q => by cases q
    · obtain ⟨a, b, c, d⟩ := jev_o (v := v) (t := t) (x := x) (o := some (hyV h)) (b := true) (key e he z)
      rw [a, d]; exact hv.2.2.1 e (key e he z)
  · show (if t' = t ∧ x' = x then some (hyV h) else hylt h t' x') = jlw _ t' x' (evE v + 1)
    rw [jlw, s1, s2, s3, s4, jlw_ev (Nat.le_refl _), ← hv.2.2.2.1 t' x']
    by_cases z : t' = t ∧ x' = x
    · rw [if_pos z, if_pos ⟨rfl, z.1.symm, z.2.symm⟩]
    · rw [if_neg z, if_neg (fun q => z ⟨q.2.1.symm, q.2.2.symm⟩)]
  · obtain ⟨pe, p1, p2⟩ := hv.2.2.2.2.1
    refine ⟨pe, fun r hr => ?_, fun e he hb => ?_⟩
    · obtain ⟨r1, r2, r3, r4, r5, r6⟩ := p1 r hr
      obtain ⟨a, b, c, d⟩ := jev_o (v := v) (t := t) (x := x) (o := some (hyV h)) (b := true) r1
      rw [a, b, c, d, hE, jlw_ev (Nat.le_of_lt r1)]
      exact ⟨by omega, r2, r3, r4, r5, r6⟩
    · rw [hE] at he
      by_cases z : e = evE v
      · subst z; rw [s1] at hb; cases hb
      · obtain ⟨a, -⟩ := jev_o (v := v) (t := t) (x := x) (o := some (hyV h)) (b := true) (key e he z)
        rw [a] at hb
        exact p2 e (key e he z) hb
  · have hw : w < hyV h + 1 := hw
    show (if jup (hyW h) (hyV h) t w = t ∧ jup (hyI h) (hyV h) x w = x then some (hyV h) else hylt h (jup (hyW h) (hyV h) t w) (jup (hyI h) (hyV h) x w)) = some w ↔ ∀ k, w < k → k < hyV h + 1 → ¬ (jup (hyW h) (hyV h) t k = jup (hyW h) (hyV h) t w ∧ jup (hyI h) (hyV h) x k = jup (hyI h) (hyV h) x w)
    by_cases z : w = hyV h
    · subst z
      rw [jup_s, jup_s, if_pos ⟨rfl, rfl⟩]
      exact ⟨fun _ k h1 h2 => by omega, fun _ => rfl⟩
    · rw [jup_o z, jup_o z]
      by_cases c : hyW h w = t ∧ hyI h w = x
      · rw [if_pos c]
        constructor
        · intro q; exact absurd (Option.some.inj q).symm z
        · intro q
          have := q (hyV h) (by omega) (by omega)
          rw [jup_s, jup_s] at this
          exact absurd ⟨c.1.symm, c.2.symm⟩ this
      · rw [if_neg c, hv.2.2.2.2.2 w (by omega)]
        constructor
        · intro q k h1 h2
          by_cases y : k = hyV h
          · subst y; rw [jup_s, jup_s]; exact fun u => c ⟨u.1.symm, u.2.symm⟩
          · rw [jup_o y, jup_o y]; exact q k h1 (by omega)
        · intro q k h1 h2
          have := q k h1 (by omega)
          rw [jup_o (by omega), jup_o (by omega)] at this
          exact this
theorem jVc_addR (hv : jVc h v) {t x : Nat} {o : Option Nat} (ht : t < 8) (hx : x < 6) (ho : ∀ w, o = some w → w < hyV h) : jVc (jaddR h t x o) (jev v t x o false) := by
  obtain ⟨s1, s2, s3, s4⟩ := jev_s (v := v) (t := t) (x := x) (o := o) (b := false)
  have hE : evE (jev v t x o false) = evE v + 1 := rfl
  have key : ∀ e, e < evE v + 1 → e ≠ evE v → e < evE v := fun e h1 h2 => by omega
  refine ⟨?_, fun e he => ?_, fun e he => ?_, fun t' x' => ?_, ?_, fun w hw => hv.2.2.2.2.2 w hw⟩
  · show evE v + 1 = hyV h + (hyR h + 1)
    have := hv.1; omega
  · rw [hE] at he
    by_cases z : e = evE v
    · subst z; rw [s2, s3, s4]; exact ⟨ht, hx, ho⟩
    · obtain ⟨-, b, c, d⟩ := jev_o (v := v) (t := t) (x := x) (o := o) (b := false) (key e he z)
      rw [b, c, d]
      exact ⟨jVc_w hv (key e he z), jVc_x hv (key e he z), fun w q => jVc_v hv (key e he z) q⟩
  · rw [hE] at he
    by_cases z : e = evE v
    · subst z; rw [s1]; exact fun q => by cases q
    · obtain ⟨a, b, c, d⟩ := jev_o (v := v) (t := t) (x := x) (o := o) (b := false) (key e he z)
      rw [a, d]; exact hv.2.2.1 e (key e he z)
  · show hylt h t' x' = jlw _ t' x' (evE v + 1)
    rw [jlw, s1, jlw_ev (Nat.le_refl _), ← hv.2.2.2.1 t' x', if_neg (fun q => by cases q.1)]
  · obtain ⟨pe, p1, p2⟩ := hv.2.2.2.2.1
    refine ⟨jup pe (hyR h) (evE v), fun r hr => ?_, fun e he hb => ?_⟩
    · have hr : r < hyR h + 1 := hr
      show jup pe (hyR h) (evE v) r < evE v + 1 ∧ evb _ (jup pe (hyR h) (evE v) r) = false ∧ evw _ (jup pe (hyR h) (evE v) r) = jup (hyrd h) (hyR h) t r ∧ evx _ (jup pe (hyR h) (evE v) r) = jup (hyri h) (hyR h) x r ∧ evv _ (jup pe (hyR h) (evE v) r) = jup (hyrv h) (hyR h) o r ∧ jup (hyro h) (hyR h) (hylt h t x) r = jlw _ (jup (hyrd h) (hyR h) t r) (jup (hyri h) (hyR h) x r) (jup pe (hyR h) (evE v) r)
      by_cases z : r = hyR h
      · subst z
        simp only [jup_s]
        exact ⟨by omega, s1, s2, s3, s4, by rw [jlw_ev (Nat.le_refl _)]; exact hv.2.2.2.1 t x⟩
      · simp only [jup_o z]
        obtain ⟨r1, r2, r3, r4, r5, r6⟩ := p1 r (by omega)
        obtain ⟨a, b, c, d⟩ := jev_o (v := v) (t := t) (x := x) (o := o) (b := false) r1
        rw [a, b, c, d, jlw_ev (Nat.le_of_lt r1)]
        exact ⟨by omega, r2, r3, r4, r5, r6⟩
    · rw [hE] at he
      by_cases z : e = evE v
      · exact ⟨hyR h, Nat.lt_succ_self _, by rw [jup_s, z]⟩
      · obtain ⟨a, -⟩ := jev_o (v := v) (t := t) (x := x) (o := o) (b := false) (key e he z)
        rw [a] at hb
        obtain ⟨r, hr, e2⟩ := p2 e (key e he z) hb
        exact ⟨r, Nat.lt_succ_of_lt hr, by rw [jup_o (by omega)]; exact e2⟩
theorem jVc_end (hv : jVc h v) {t s : Nat} : jVc (jend h t s) v := hv
theorem jVc_com (hv : jVc h v) {t k : Nat} : jVc (jcomP h t k) v := hv
theorem jVc_exc (hv : jVc h v) {x i : Nat} : jVc (jexc h x i) v := hv
end JKP
