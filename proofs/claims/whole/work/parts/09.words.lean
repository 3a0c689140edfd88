/-! Answers and fields in words of numbers: booleans, versions or none. -/
def jB (b : Bool) : Int32 := if b then nI 1 else nI 0
def vI (o : Option Nat) : Int32 := match o with
  | none => -1
  | some v => nI v
theorem jB_narrow (b : Bool) : narrow .boolean (.int (jB b)) = .int (jB b) := by cases b <;> decide +kernel
theorem jB_fits (b : Bool) : fits .boolean (.int (jB b)) = true := by cases b <;> decide +kernel
theorem jB_eq0 (b : Bool) : jB b = 0 ↔ b = false := by cases b <;> decide +kernel
theorem jB_t : jB true = nI 1 := rfl
theorem jB_f : jB false = nI 0 := rfl
theorem jB_of {b : Bool} (h : b = true) : nI 1 = jB b := by rw [h]; rfl
theorem jB_nof {b : Bool} (h : ¬ b = true) : nI 0 = jB b := by rw [Bool.eq_false_iff.mpr h]; rfl
theorem vI_m1 (o : Option Nat) (h : ∀ v, o = some v → v < 2 ^ 31) : vI o = -1 ↔ o = none := by
  cases o with
  | none => simp [vI]
  | some v =>
    have hv := h v rfl
    constructor
    · intro q
      have q : nI v = -1 := q
      have := congrArg Int32.toInt q
      rw [nI_toInt hv] at this
      have e : (-1 : Int32).toInt = -1 := by decide +kernel
      rw [e] at this
      omega
    · intro q; cases q
theorem nI_ne_m1 {v : Nat} (hv : v < 2 ^ 31) : nI v ≠ -1 := fun q => by
  have := (vI_m1 (some v) (fun w hw => by cases hw; exact hv)).mp q
  cases this
section JBR
variable {Γ : jxG} {Θ : jxT} {Φ : jxF} {l : Launch} {cc : ByteArray} {nL : Nat} {own : String} {ret : Option FieldType} {rm : Room} {pc q : Nat} {L : List (Option jxV)} {st : List jxV} {σ : jxM}
theorem j_bif_eq (X : jxOk Γ Θ l cc nL own ret rm) {b : Bool} {off : Int} {tgt : Nat} (hd : decode cc pc = .ok (.ifCond .eq off, 3)) (ht : (pc : Int) + off = (tgt : Int)) (hq : pc + 3 = q)
    (kt : b = false → jxW Γ Θ Φ tgt L st σ) (kf : b = true → jxW Γ Θ Φ q L st σ) : jxW Γ Θ Φ pc L (.inl (jB b) :: st) σ :=
  j_if_eq X hd ht hq (fun h => kt ((jB_eq0 b).mp h)) (fun h => kf (by cases b with | true => rfl | false => exact absurd ((jB_eq0 false).mpr rfl) h))
theorem j_bif_ne (X : jxOk Γ Θ l cc nL own ret rm) {b : Bool} {off : Int} {tgt : Nat} (hd : decode cc pc = .ok (.ifCond .ne off, 3)) (ht : (pc : Int) + off = (tgt : Int)) (hq : pc + 3 = q)
    (kt : b = true → jxW Γ Θ Φ tgt L st σ) (kf : b = false → jxW Γ Θ Φ q L st σ) : jxW Γ Θ Φ pc L (.inl (jB b) :: st) σ :=
  j_if_ne X hd ht hq (fun h => kt (by cases b with | true => rfl | false => exact absurd ((jB_eq0 false).mpr rfl) h)) (fun h => kf ((jB_eq0 b).mp h))
end JBR
/-- the room of a method with calls d deep -/
def jrm (d : Nat) : Room := { frames := d, cells := 0, slots := 0, locals := 40 * d }
/-- an answer, and the memory as it was -/
def jan (v : Int32) (σ : jxM) : jxF := fun r σ' => r = some (.inl v) ∧ σ = σ'
/-- no answer, and the memory as it was -/
def jvo (σ : jxM) : jxF := fun r σ' => r = none ∧ σ = σ'
/-- a row filled up to n -/
def jfl (σ : jxM) (g r n : Nat) (x : Int32) : jxM := fun g' r' j => if g' = g ∧ r' = r ∧ j < n then x else σ g' r' j
theorem jfl_0 (σ : jxM) (g r : Nat) (x : Int32) : jfl σ g r 0 x = σ := by
  funext a b c
  simp [jfl]
theorem jfl_succ (σ : jxM) (g r n : Nat) (x : Int32) : jxs (jfl σ g r n x) g r n x = jfl σ g r (n + 1) x := by
  funext a b c
  rw [jxs_at]
  unfold jfl
  by_cases h : a = g ∧ b = r
  · obtain ⟨rfl, rfl⟩ := h
    by_cases e : c = n
    · subst e; simp
    · by_cases e2 : c < n
      · simp [e, e2, Nat.lt_succ_of_lt e2]
      · have : ¬ c < n + 1 := by omega
        simp [e, e2, this]
  · have h1 : ¬ (a = g ∧ b = r ∧ c = n) := fun q => h ⟨q.1, q.2.1⟩
    have h2 : ¬ (a = g ∧ b = r ∧ c < n) := fun q => h ⟨q.1, q.2.1⟩
    have h3 : ¬ (a = g ∧ b = r ∧ c < n + 1) := fun q => h ⟨q.1, q.2.1⟩
    rw [if_neg h1, if_neg h2, if_neg h3]
theorem j_inc1 (t : Nat) : nI t + Int32.ofInt 1 = nI (t + 1) := by rw [nI_succ]; rfl
theorem j_dec1 (t : Nat) : nI (t + 1) + Int32.ofInt (-1) = nI t := by rw [← pk_m1 t]; rfl
theorem bI_has {S : Nat → Bool} {t : Nat} (ht : t < 8) : bI S &&& bI (fun i => decide (i = t)) = 0 ↔ S t = false := by
  rw [bI_and, bI_zero]
  constructor
  · intro h; have := h t ht; simpa using this
  · intro h i hi
    by_cases e : i = t
    · subst e; simp [h]
    · simp [e]
/-- x is one of 0 .. n - 1 -/
def jin (x : Int32) (n : Nat) : Bool := decide (0 ≤ x.toInt ∧ x.toInt < n)
theorem jin_nI {k n : Nat} (h : k < 2 ^ 31) : jin (nI k) n = decide (k < n) := by
  unfold jin
  rw [nI_toInt h]
  by_cases e : k < n
  · simp [e]
  · simp [e]
theorem jin_of {x : Int32} {n : Nat} (h : jin x n = true) (hn : n < 2 ^ 31) : ∃ k, k < n ∧ x = nI k := by
  unfold jin at h
  rw [decide_eq_true_eq] at h
  exact vp_in_of (vp_in_iff.mpr h) hn
theorem jin_neg {x : Int32} {n : Nat} (h : x < 0) : jin x n = false := by
  unfold jin
  rw [decide_eq_false_iff_not]
  have h1 := Int32.lt_iff_toInt_lt.mp h
  have e : (0 : Int32).toInt = 0 := by decide +kernel
  rw [e] at h1
  omega
theorem jin_big {x : Int32} {n : Nat} (hn : n < 2 ^ 31) (h : nI n ≤ x) : jin x n = false := by
  unfold jin
  rw [decide_eq_false_iff_not]
  have h1 := Int32.le_iff_toInt_le.mp h
  rw [nI_toInt hn] at h1
  omega
theorem jin_yes {x : Int32} {n : Nat} (hn : n < 2 ^ 31) (h0 : ¬ x < 0) (h : ¬ nI n ≤ x) : jin x n = true := by
  unfold jin
  rw [decide_eq_true_eq]
  have e : (0 : Int32).toInt = 0 := by decide +kernel
  have h1 : ¬ x.toInt < (0 : Int32).toInt := fun q => h0 (Int32.lt_iff_toInt_lt.mpr q)
  have h2 : ¬ (nI n).toInt ≤ x.toInt := fun q => h (Int32.le_iff_toInt_le.mpr q)
  rw [e] at h1
  rw [nI_toInt hn] at h2
  omega
section JLD
variable {Γ : jxG} {Θ : jxT} {Φ : jxF} {l : Launch} {cc : ByteArray} {nL : Nat} {own : String} {ret : Option FieldType} {rm : Room} {pc q : Nat} {L : List (Option jxV)} {st : List jxV} {σ : jxM}
theorem j_ldcw (X : jxOk Γ Θ l cc nL own ret rm) {index : Nat} {v : Int32} (hd : decode cc pc = .ok (.ldc_w index, 3)) (hw : Cond.constant own index v ∈ jW) (hq : pc + 3 = q)
    (k : jxW Γ Θ Φ q L (.inl v :: st) σ) : jxW Γ Θ Φ pc L st σ := by
  subst hq
  obtain ⟨p, l', e, R, s, m, args, below, meth, c, A⟩ := Γ
  obtain ⟨hx, hb, hml, hown, hts, hret, hlk, hS0, hI, hA1, hA2, hR0, hl0⟩ := X
  intro H locs ls hP hS hl
  exact lv_ldcw hx hb hown (hts _ hw) hd (k H locs ls hP hS hl)
end JLD
