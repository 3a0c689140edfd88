/-! The reference: rows of a cycle. -/
def jmk (k : Nat) : Nat := if k = 0 then 1 else if k = 1 then 3 else 7
/-- the edge is of those that kind k counts -/
def jok (h : jH) (k a b : Nat) : Prop := jWW h a b ∨ (1 ≤ k ∧ jWR h a b) ∨ (2 ≤ k ∧ jRW h a b)
theorem jbits : ∀ (a b c : Bool), ((nI (jn a 1 + jn b 2 + jn c 4) &&& nI 1 = 0 ↔ a = false) ∧ (nI (jn a 1 + jn b 2 + jn c 4) &&& nI 3 = 0 ↔ a = false ∧ b = false) ∧ (nI (jn a 1 + jn b 2 + jn c 4) &&& nI 7 = 0 ↔ a = false ∧ b = false ∧ c = false) ∧ (nI (jn a 1 + jn b 2 + jn c 4) &&& nI 4 = 0 ↔ c = false)) := by decide +kernel
theorem jok_mask {h : jH} {k a b : Nat} : nI (jed h a b) &&& nI (jmk k) = 0 ↔ ¬ jok h k a b := by
  obtain ⟨b1, b2, b3, b4⟩ := jbits (jd (jWW h a b)) (jd (jWR h a b)) (jd (jRW h a b))
  unfold jed jmk jok
  by_cases e0 : k = 0
  · rw [if_pos e0, b1, jd_no]
    exact ⟨fun q z => z.elim q (fun z => z.elim (fun y => by omega) (fun y => by omega)), fun q z => q (Or.inl z)⟩
  · rw [if_neg e0]
    by_cases e1 : k = 1
    · rw [if_pos e1, b2, jd_no, jd_no]
      exact ⟨fun q z => z.elim q.1 (fun z => z.elim (fun y => q.2 y.2) (fun y => by omega)), fun q => ⟨fun z => q (Or.inl z), fun z => q (Or.inr (Or.inl ⟨by omega, z⟩))⟩⟩
    · rw [if_neg e1, b3, jd_no, jd_no, jd_no]
      exact ⟨fun q z => z.elim q.1 (fun z => z.elim (fun y => q.2.1 y.2) (fun y => q.2.2 y.2)), fun q => ⟨fun z => q (Or.inl z), fun z => q (Or.inr (Or.inl ⟨by omega, z⟩)), fun z => q (Or.inr (Or.inr ⟨by omega, z⟩))⟩⟩
theorem jnx_mod {n i : Nat} (h : i < n) : (i + 1) % n = jnx n i := by
  unfold jnx
  by_cases e : i + 1 = n
  · rw [if_pos e, e, Nat.mod_self]
  · rw [if_neg e]; exact Nat.mod_eq_of_lt (by omega)
/-- drawn -/
def jDr (h : jH) (σ : jxM) : Prop := ∀ a b, a < 8 → b < 8 → σ 50 0 (8 * a + b) = nI (jed h a b)
/-- the row so far -/
def jRo (n : Nat) (row : Nat → Nat) (σ : jxM) : Prop := ∀ i, i < n → row i < 8 ∧ σ 51 0 i = nI (row i)
/-- how many of the first n -/
noncomputable def jcn (p : Nat → Prop) : Nat → Nat
  | 0 => 0
  | n + 1 => @ite Nat (p n) (Classical.propDecidable _) (jcn p n + 1) (jcn p n)
theorem jcn_y {p : Nat → Prop} {n : Nat} (h : p n) : jcn p (n + 1) = jcn p n + 1 := by rw [jcn, if_pos h]
theorem jcn_n {p : Nat → Prop} {n : Nat} (h : ¬ p n) : jcn p (n + 1) = jcn p n := by rw [jcn, if_neg h]
theorem jcn_le (p : Nat → Prop) : ∀ n, jcn p n ≤ n
  | 0 => Nat.le_refl _
  | n + 1 => by
    have := jcn_le p n
    by_cases h : p n
    · rw [jcn_y h]; omega
    · rw [jcn_n h]; omega
theorem jcn_pos {p : Nat → Prop} : ∀ n, 0 < jcn p n ↔ ∃ i, i < n ∧ p i
  | 0 => ⟨fun h => absurd h (Nat.lt_irrefl _), fun ⟨i, h, _⟩ => by omega⟩
  | n + 1 => by
    rw [jex_succ, ← jcn_pos n]
    by_cases h : p n
    · rw [jcn_y h]; exact ⟨fun _ => Or.inr h, fun _ => by omega⟩
    · rw [jcn_n h]; exact ⟨Or.inl, fun q => q.elim id (fun z => absurd z h)⟩
theorem jcn_two {p : Nat → Prop} : ∀ n, jcn p n < 2 ↔ ∀ i j, i < n → j < n → p i → p j → i = j
  | 0 => ⟨fun _ i j h => by omega, fun _ => by show 0 < 2; omega⟩
  | n + 1 => by
    by_cases h : p n
    · rw [jcn_y h]
      constructor
      · intro q i j hi hj pi pj
        have hz : ¬ 0 < jcn p n := by omega
        have no : ∀ i, i < n → ¬ p i := fun i hi z => hz ((jcn_pos n).mpr ⟨i, hi, z⟩)
        have ei : i = n := Classical.byContradiction (fun z => no i (by omega) pi)
        have ej : j = n := Classical.byContradiction (fun z => no j (by omega) pj)
        omega
      · intro q
        have : ¬ 0 < jcn p n := fun z => by
          obtain ⟨i, hi, pi⟩ := (jcn_pos n).mp z
          have := q i n (by omega) (by omega) pi h
          omega
        omega
    · rw [jcn_n h, jcn_two n]
      constructor
      · intro q i j hi hj pi pj
        have ei : i < n := Classical.byContradiction (fun z => h (by rw [show n = i by omega]; exact pi))
        have ej : j < n := Classical.byContradiction (fun z => h (by rw [show n = j by omega]; exact pj))
        exact q i j ei ej pi pj
      · exact fun q i j hi hj => q i j (by omega) (by omega)
/-- the i-th edge of a row, closed -/
def jbare (h : jH) (n : Nat) (row : Nat → Nat) (i : Nat) : Prop := ¬ (jWW h (row i) (row (jnx n i)) ∨ jWR h (row i) (row (jnx n i)))
def jover (h : jH) (n : Nat) (row : Nat → Nat) (i : Nat) : Prop := jRW h (row i) (row (jnx n i))
/-- what 'closes' asks is a closed walk of the kind -/
theorem jclo_iff {h : jH} {k n : Nat} {row : Nat → Nat} (hk : k < 4) (h8 : ∀ i, i < n → row i < 8) : jCy h k n row ↔ (∀ i, i < n → jok h k (row i) (row (jnx n i))) ∧ (k < 2 ∨ (0 < jcn (jover h n row) n ∧ (k = 3 ∨ jcn (jbare h n row) n < 2))) := by
  unfold jCy jcy
  by_cases h2 : 2 ≤ k
  · rw [if_pos (decide_eq_true h2)]
    constructor
    · rintro ⟨-, m, hm, hM, hP⟩
      have hM := jM_iff.mp hM
      have all : ∀ i, i < n → jok h k (row i) (row (jnx n i)) := by
        intro i hi
        by_cases e : i = m
        · subst e; exact Or.inr (Or.inr ⟨h2, hM⟩)
        · rcases jP_iff.mp (hP i hi e) with q | q | q
          · exact Or.inl q
          · exact Or.inr (Or.inl q)
          · exact Or.inr (Or.inr ⟨h2, q.2⟩)
      refine ⟨all, Or.inr ⟨(jcn_pos n).mpr ⟨m, hm, hM⟩, ?_⟩⟩
      by_cases e3 : k = 3
      · exact Or.inl e3
      · refine Or.inr ((jcn_two n).mpr (fun i j hi hj bi bj => ?_))
        have key : ∀ i, i < n → jbare h n row i → i = m := fun i hi bi => Classical.byContradiction (fun z => bi (by
          rcases jP_iff.mp (hP i hi z) with q | q | q
          · exact Or.inl q
          · exact Or.inr q.2
          · omega))
        rw [key i hi bi, key j hj bj]
    · rintro ⟨all, q⟩
      refine ⟨h8, ?_⟩
      rcases q with q | ⟨q1, q2⟩
      · omega
      · obtain ⟨m0, hm0, hM0⟩ := (jcn_pos n).mp q1
        rcases q2 with e3 | q2
        · exact ⟨m0, hm0, jM_iff.mpr hM0, fun i hi _ => jP_iff.mpr (by
            rcases all i hi with q | q | q
            · exact Or.inl q
            · exact Or.inr (Or.inl q)
            · exact Or.inr (Or.inr ⟨by omega, q.2⟩))⟩
        · have hq := (jcn_two n).mp q2
          by_cases eb : ∃ m, m < n ∧ jbare h n row m
          · obtain ⟨m, hm, bm⟩ := eb
            refine ⟨m, hm, jM_iff.mpr ?_, fun i hi hne => jP_iff.mpr ?_⟩
            · rcases all m hm with q | q | q
              · exact absurd (Or.inl q) bm
              · exact absurd (Or.inr q.2) bm
              · exact q.2
            · have nb : ¬ jbare h n row i := fun bi => hne (hq i m hi hm bi bm)
              rcases Classical.not_not.mp nb with q | q
              · exact Or.inl q
              · exact Or.inr (Or.inl ⟨by omega, q⟩)
          · refine ⟨m0, hm0, jM_iff.mpr hM0, fun i hi _ => jP_iff.mpr ?_⟩
            have nb : ¬ jbare h n row i := fun bi => eb ⟨i, hi, bi⟩
            rcases Classical.not_not.mp nb with q | q
            · exact Or.inl q
            · exact Or.inr (Or.inl ⟨by omega, q⟩)
  · rw [if_neg (by rw [decide_eq_true_eq]; exact h2)]
    constructor
    · rintro ⟨-, hP⟩
      refine ⟨fun i hi => ?_, Or.inl (by omega)⟩
      rcases jP_iff.mp (hP i hi) with q | q | q
      · exact Or.inl q
      · exact Or.inr (Or.inl q)
      · omega
    · rintro ⟨all, -⟩
      refine ⟨h8, fun i hi => jP_iff.mpr ?_⟩
      rcases all i hi with q | q | q
      · exact Or.inl q
      · exact Or.inr (Or.inl q)
      · omega
set_option maxRecDepth 100000 in
set_option maxHeartbeats 4000000 in
theorem c_M_mask {l : Launch} {Θ : jxT} (hI : jxI Θ) {k : Nat} (hk : k < 4) (σ : jxM) : jxMet l y_M_mask b_M_mask 1 (some FieldType.int) (jrm 1) Θ [.inl (nI k)] σ (jan (nI (jmk k)) σ) := by
  refine jxMet.of (own := "HistoryJudgeModel") hI (by decide) rfl (Nat.le_of_ble_eq_true rfl) (fun Γ X => ?_)
  show jxW Γ Θ (jan (nI (jmk k)) σ) 0 [some (.inl (nI k))] [] σ
  refine j_iload_n X (q := 1) d_M_mask_0 rfl rfl ?_
  refine j_nif_ne X (tgt := 8) (q := 4) d_M_mask_1 (by decide) rfl (by omega) (fun h1 => ?_) (fun h1 => ?_)
  · have _b1 := True.intro
    refine j_iload_n X (q := 9) d_M_mask_8 rfl rfl ?_
    refine j_iconst X (v := (nI 1)) (q := 10) d_M_mask_9 (by decide +kernel) rfl ?_
    refine j_ncmp_ne X (tgt := 17) (q := 13) d_M_mask_10 (by decide) rfl (by omega) (by omega) (fun h10 => ?_) (fun h10 => ?_)
    · have _b10 := True.intro
      refine j_bipush X (v := (nI 7)) (q := 19) d_M_mask_17 (by decide +kernel) rfl ?_
      refine j_iret X d_M_mask_19 ?_
      exact ⟨by unfold jmk; rw [if_neg h1, if_neg h10], rfl⟩
    · have _b10 := True.intro
      refine j_iconst X (v := (nI 3)) (q := 14) d_M_mask_13 (by decide +kernel) rfl ?_
      refine j_goto X (tgt := 19) d_M_mask_14 (by decide) ?_
      refine j_iret X d_M_mask_19 ?_
      exact ⟨by unfold jmk; rw [if_neg h1, if_pos h10], rfl⟩
  · have _b1 := True.intro
    refine j_iconst X (v := (nI 1)) (q := 5) d_M_mask_4 (by decide +kernel) rfl ?_
    refine j_goto X (tgt := 19) d_M_mask_5 (by decide) ?_
    refine j_iret X d_M_mask_19 ?_
    exact ⟨by unfold jmk; rw [if_pos h1], rfl⟩
set_option maxRecDepth 100000 in
set_option maxHeartbeats 4000000 in
theorem c_M_inRow {l : Launch} {Θ : jxT} (hI : jxI Θ) (hC : ∀ g r, r < jrwM g → Θ.2.2.2 g r) {σ : jxM} {t n : Nat} {row : Nat → Nat} (ht : t < 2 ^ 31) (hn : n ≤ 9) (hr : jRo n row σ) : jxMet l y_M_inRow b_M_inRow 5 (some FieldType.boolean) (jrm 1) Θ [.inr (40, 0), .inl (nI t), .inl (nI n)] σ (jan (jB (jd (∃ e, e < n ∧ row e = t))) σ) := by
  refine jxMet.of (own := "HistoryJudgeModel") hI (by decide) rfl (Nat.le_of_ble_eq_true rfl) (fun Γ X => ?_)
  show jxW Γ Θ (jan (jB (jd (∃ e, e < n ∧ row e = t))) σ) 0 [some (.inr (40, 0)), some (.inl (nI t)), some (.inl (nI n)), none, none] [] σ
  have K : ∀ (N : Nat) (k : Nat), n - k < N → k ≤ n → jxW Γ Θ (jan (jB (jd (∃ e, e < n ∧ row e = t))) σ) 5 [some (.inr (40, 0)), some (.inl (nI t)), some (.inl (nI n)), some (.inl (jB (jd (∃ e, e < k ∧ row e = t)))), some (.inl (nI k))] [] σ := by
    intro N
    induction N with
    | zero => intro k hn; exact absurd hn (Nat.not_lt_zero _)
    | succ N ih =>
      intro k hn hk
      refine j_iload X (q := 7) d_M_inRow_5 rfl rfl ?_
      refine j_iload_n X (q := 8) d_M_inRow_7 rfl rfl ?_
      refine j_ncmp_ge X (tgt := 38) (q := 11) d_M_inRow_8 (by decide) rfl (by omega) (by omega) (fun h8 => ?_) (fun h8 => ?_)
      · have _b8 := True.intro
        refine j_iload_n X (q := 39) d_M_inRow_38 rfl rfl ?_
        refine j_zret X d_M_inRow_39 (jB_narrow _) ?_
        have e : k = n := by omega
        subst e
        exact ⟨rfl, rfl⟩
      · have _b8 := True.intro
        have J31 : jxW Γ Θ (jan (jB (jd (∃ e, e < n ∧ row e = t))) σ) 31 [some (.inr (40, 0)), some (.inl (nI t)), some (.inl (nI n)), some (.inl (jB (jd (∃ e, e < k ∧ row e = t)))), some (.inl (nI k))] [.inl (jB (jd (∃ e, e < (k + 1) ∧ row e = t)))] σ := by
          refine j_istore_n X (j := 3) (q := 32) d_M_inRow_31 rfl (Nat.le_of_ble_eq_true rfl) rfl ?_
          refine j_iinc X (q := 35) d_M_inRow_32 rfl (j_inc1 _) rfl ?_
          refine j_goto X (tgt := 5) d_M_inRow_35 (by decide) ?_
          refine jxW.to (L' := [some (.inr (40, 0)), some (.inl (nI t)), some (.inl (nI n)), some (.inl (jB (jd (∃ e, e < (k + 1) ∧ row e = t)))), some (.inl (nI (k + 1)))]) (by simp [jfg]) ?_
          exact ih (k + 1) (by omega) (by omega)
        refine j_iload_n X (q := 12) d_M_inRow_11 rfl rfl ?_
        refine j_bif_ne X (tgt := 26) (q := 15) d_M_inRow_12 (by decide) rfl (fun h12 => ?_) (fun h12 => ?_)
        · have _b12 := True.intro
          refine j_iconst X (v := (nI 1)) (q := 27) d_M_inRow_26 (by decide +kernel) rfl ?_
          refine j_goto X (tgt := 31) d_M_inRow_27 (by decide) ?_
          refine jxW.to (L' := [some (.inr (40, 0)), some (.inl (nI t)), some (.inl (nI n)), some (.inl (jB (jd (∃ e, e < k ∧ row e = t)))), some (.inl (nI k))]) (by simp [jfg]) ?_
          refine jxW.cast rfl (show _ = [.inl (jB (jd (∃ e, e < (k + 1) ∧ row e = t)))] from congrArg (fun z => [Sum.inl z]) (jor1 (P := fun e => row e = t) h12)) rfl ?_
          exact J31
        · have _b12 := True.intro
          refine j_aload_n X (q := 16) d_M_inRow_15 rfl rfl ?_
          refine j_getR X (C := jR5) (T := jT5) (N := 18) (ci := 5) (j := 14) (q := 19) d_M_inRow_16 ju5 rfl rfl rfl (by decide) wl497 rfl (hC _ _ (by decide)) rfl ?_
          refine j_iload X (q := 21) d_M_inRow_19 rfl rfl ?_
          refine j_iald X (q := 22) d_M_inRow_21 rfl (by decide) rfl (by omega) (hC _ _ (by decide)) rfl (hr k (by omega)).2 ?_
          refine j_iload_n X (q := 23) d_M_inRow_22 rfl rfl ?_
          refine j_ncmp_ne X (tgt := 30) (q := 26) d_M_inRow_23 (by decide) rfl (by have := (hr k (by omega)).1; omega) (by omega) (fun h23 => ?_) (fun h23 => ?_)
          · have _b23 := True.intro
            refine j_iconst X (v := (nI 0)) (q := 31) d_M_inRow_30 (by decide +kernel) rfl ?_
            refine jxW.to (L' := [some (.inr (40, 0)), some (.inl (nI t)), some (.inl (nI n)), some (.inl (jB (jd (∃ e, e < k ∧ row e = t)))), some (.inl (nI k))]) (by simp [jfg]) ?_
            refine jxW.cast rfl (show _ = [.inl (jB (jd (∃ e, e < (k + 1) ∧ row e = t)))] from congrArg (fun z => [Sum.inl z]) (jor0 (P := fun e => row e = t) h12 h23)) rfl ?_
            exact J31
          · have _b23 := True.intro
            refine j_iconst X (v := (nI 1)) (q := 27) d_M_inRow_26 (by decide +kernel) rfl ?_
            refine j_goto X (tgt := 31) d_M_inRow_27 (by decide) ?_
            refine jxW.to (L' := [some (.inr (40, 0)), some (.inl (nI t)), some (.inl (nI n)), some (.inl (jB (jd (∃ e, e < k ∧ row e = t)))), some (.inl (nI k))]) (by simp [jfg]) ?_
            refine jxW.cast rfl (show _ = [.inl (jB (jd (∃ e, e < (k + 1) ∧ row e = t)))] from congrArg (fun z => [Sum.inl z]) (jor2 (P := fun e => row e = t) h23)) rfl ?_
            exact J31
  refine j_iconst X (v := (nI 0)) (q := 1) d_M_inRow_0 (by decide +kernel) rfl ?_
  refine j_istore_n X (j := 3) (q := 2) d_M_inRow_1 rfl (Nat.le_of_ble_eq_true rfl) rfl ?_
  refine j_iconst X (v := (nI 0)) (q := 3) d_M_inRow_2 (by decide +kernel) rfl ?_
  refine j_istore X (q := 5) d_M_inRow_3 (Nat.le_of_ble_eq_true rfl) rfl ?_
  refine jxW.to (L' := [some (.inr (40, 0)), some (.inl (nI t)), some (.inl (nI n)), some (.inl (jB (jd (∃ e, e < 0 ∧ row e = t)))), some (.inl (nI 0))]) (by simp [jfg]; rw [jd_no.mpr id]; rfl) ?_
  exact K 11 0 (by omega) (by omega)
set_option maxRecDepth 100000 in
set_option maxHeartbeats 4000000 in
theorem c_M_closes {l : Launch} {Θ : jxT} (hI : jxI Θ) (hC : ∀ g r, r < jrwM g → Θ.2.2.2 g r) {h : jH} {σ : jxM} (hd : jDr h σ) {k n : Nat} {row : Nat → Nat} (hk : k < 4) (hn2 : 2 ≤ n) (hn8 : n ≤ 8) (hr : jRo n row σ) : jxMet l y_M_closes b_M_closes 7 (some FieldType.boolean) (jrm 2) Θ [.inr (40, 0), .inl (nI k), .inl (nI n)] σ (jan (jB (jd (jCy h k n row))) σ) := by
  refine jxMet.of (own := "HistoryJudgeModel") hI (by decide) rfl (Nat.le_of_ble_eq_true rfl) (fun Γ X => ?_)
  show jxW Γ Θ (jan (jB (jd (jCy h k n row))) σ) 0 [some (.inr (40, 0)), some (.inl (nI k)), some (.inl (nI n)), none, none, none, none] [] σ
  have hc := jclo_iff (h := h) (row := row) hk (fun i hi => (hr i hi).1)
  have K : ∀ (N : Nat) (i : Nat), n - i < N → i ≤ n → (∀ j, j < i → jok h k (row j) (row (jnx n j))) → jxW Γ Θ (jan (jB (jd (jCy h k n row))) σ) 8 [some (.inr (40, 0)), some (.inl (nI k)), some (.inl (nI n)), some (.inl (nI (jcn (jbare h n row) i))), some (.inl (nI (jcn (jover h n row) i))), some (.inl (nI i)), none] [] σ := by
    intro N
    induction N with
    | zero => intro i hn; exact absurd hn (Nat.not_lt_zero _)
    | succ N ih =>
      intro i hn hi hall
      refine j_iload X (q := 10) d_M_closes_8 rfl rfl ?_
      refine j_iload_n X (q := 11) d_M_closes_10 rfl rfl ?_
      refine j_ncmp_ge X (tgt := 94) (q := 14) d_M_closes_11 (by decide) rfl (by omega) (by omega) (fun h11 => ?_) (fun h11 => ?_)
      · have _b11 := True.intro
        have l1 := jcn_le (jbare h n row) i
        have l2 := jcn_le (jover h n row) i
        have ei : i = n := by omega
        subst ei
        refine j_iload_n X (q := 95) d_M_closes_94 rfl rfl ?_
        refine j_iconst X (v := (nI 2)) (q := 96) d_M_closes_95 (by decide +kernel) rfl ?_
        refine j_ncmp_lt X (tgt := 114) (q := 99) d_M_closes_96 (by decide) rfl (by omega) (by omega) (fun h96 => ?_) (fun h96 => ?_)
        · have _b96 := True.intro
          refine j_iconst X (v := (nI 1)) (q := 115) d_M_closes_114 (by decide +kernel) rfl ?_
          refine j_goto X (tgt := 119) d_M_closes_115 (by decide) ?_
          refine j_zret X d_M_closes_119 (by decide +kernel) ?_
          exact ⟨by rw [jd_iff.mpr (hc.mpr ⟨hall, Or.inl h96⟩)]; rfl, rfl⟩
        · have _b96 := True.intro
          refine j_iload X (q := 101) d_M_closes_99 rfl rfl ?_
          refine j_nif_le X (tgt := 118) (q := 104) d_M_closes_101 (by decide) rfl (by omega) (fun h101 => ?_) (fun h101 => ?_)
          · have _b101 := True.intro
            refine j_iconst X (v := (nI 0)) (q := 119) d_M_closes_118 (by decide +kernel) rfl ?_
            refine j_zret X d_M_closes_119 (by decide +kernel) ?_
            exact ⟨by rw [jd_no.mpr (fun q => (hc.mp q).2.elim h96 (fun z => absurd z.1 (by omega)))]; rfl, rfl⟩
          · have _b101 := True.intro
            refine j_iload_n X (q := 105) d_M_closes_104 rfl rfl ?_
            refine j_iconst X (v := (nI 3)) (q := 106) d_M_closes_105 (by decide +kernel) rfl ?_
            refine j_ncmp_eq X (tgt := 114) (q := 109) d_M_closes_106 (by decide) rfl (by omega) (by omega) (fun h106 => ?_) (fun h106 => ?_)
            · have _b106 := True.intro
              refine j_iconst X (v := (nI 1)) (q := 115) d_M_closes_114 (by decide +kernel) rfl ?_
              refine j_goto X (tgt := 119) d_M_closes_115 (by decide) ?_
              refine j_zret X d_M_closes_119 (by decide +kernel) ?_
              exact ⟨by rw [jd_iff.mpr (hc.mpr ⟨hall, Or.inr ⟨by omega, Or.inl h106⟩⟩)]; rfl, rfl⟩
            · have _b106 := True.intro
              refine j_iload_n X (q := 110) d_M_closes_109 rfl rfl ?_
              refine j_iconst X (v := (nI 2)) (q := 111) d_M_closes_110 (by decide +kernel) rfl ?_
              refine j_ncmp_ge X (tgt := 118) (q := 114) d_M_closes_111 (by decide) rfl (by omega) (by omega) (fun h111 => ?_) (fun h111 => ?_)
              · have _b111 := True.intro
                refine j_iconst X (v := (nI 0)) (q := 119) d_M_closes_118 (by decide +kernel) rfl ?_
                refine j_zret X d_M_closes_119 (by decide +kernel) ?_
                exact ⟨by rw [jd_no.mpr (fun q => (hc.mp q).2.elim h96 (fun z => z.2.elim h106 (fun y => by omega)))]; rfl, rfl⟩
              · have _b111 := True.intro
                refine j_iconst X (v := (nI 1)) (q := 115) d_M_closes_114 (by decide +kernel) rfl ?_
                refine j_goto X (tgt := 119) d_M_closes_115 (by decide) ?_
                refine j_zret X d_M_closes_119 (by decide +kernel) ?_
                exact ⟨by rw [jd_iff.mpr (hc.mpr ⟨hall, Or.inr ⟨by omega, Or.inr (by omega)⟩⟩)]; rfl, rfl⟩
      · have _b11 := True.intro
        have r1 := (hr i (by omega)).1
        have hnx : jnx n i < n := by
          unfold jnx
          split <;> omega
        have r2 := (hr (jnx n i) hnx).1
        have l1 := jcn_le (jbare h n row) i
        have l2 := jcn_le (jover h n row) i
        obtain ⟨b1, b2, b3, b4⟩ := jbits (jd (jWW h (row i) (row (jnx n i)))) (jd (jWR h (row i) (row (jnx n i)))) (jd (jRW h (row i) (row (jnx n i))))
        refine j_aload_n X (q := 15) d_M_closes_14 rfl rfl ?_
        refine j_getR X (C := jR5) (T := jT5) (N := 18) (ci := 5) (j := 13) (q := 18) d_M_closes_15 ju5 rfl rfl rfl (by decide) wl496 rfl (hC _ _ (by decide)) rfl ?_
        refine j_bipush X (v := (nI 8)) (q := 20) d_M_closes_18 (by decide +kernel) rfl ?_
        refine j_aload_n X (q := 21) d_M_closes_20 rfl rfl ?_
        refine j_getR X (C := jR5) (T := jT5) (N := 18) (ci := 5) (j := 14) (q := 24) d_M_closes_21 ju5 rfl rfl rfl (by decide) wl497 rfl (hC _ _ (by decide)) rfl ?_
        refine j_iload X (q := 26) d_M_closes_24 rfl rfl ?_
        refine j_iald X (q := 27) d_M_closes_26 rfl (by decide) rfl (by omega) (hC _ _ (by decide)) rfl (hr i (by omega)).2 ?_
        refine j_imul X (q := 28) d_M_closes_27 rfl ?_
        refine j_aload_n X (q := 29) d_M_closes_28 rfl rfl ?_
        refine j_getR X (C := jR5) (T := jT5) (N := 18) (ci := 5) (j := 14) (q := 32) d_M_closes_29 ju5 rfl rfl rfl (by decide) wl497 rfl (hC _ _ (by decide)) rfl ?_
        refine j_iload X (q := 34) d_M_closes_32 rfl rfl ?_
        refine j_iconst X (v := (nI 1)) (q := 35) d_M_closes_34 (by decide +kernel) rfl ?_
        refine j_iadd X (q := 36) d_M_closes_35 rfl ?_
        refine j_iload_n X (q := 37) d_M_closes_36 rfl rfl ?_
        refine j_irem X (q := 38) d_M_closes_37 (fun q => by have := (nI_eq (show n < 2 ^ 31 by omega) (show 0 < 2 ^ 31 by decide)).mp q; omega) rfl ?_
        refine j_iald X (j := jnx n i) (q := 39) d_M_closes_38 rfl (by decide) (show nI i + nI 1 - (nI i + nI 1) / nI n * nI n = nI (jnx n i) by rw [nI_add, pk_rem (by omega) (by omega) (by omega), jnx_mod (by omega)]) (by omega) (hC _ _ (by decide)) rfl (hr (jnx n i) hnx).2 ?_
        refine j_iadd X (q := 40) d_M_closes_39 rfl ?_
        refine j_iald X (j := 8 * row i + row (jnx n i)) (q := 41) d_M_closes_40 rfl (by decide) (j_ix 8 _ _) (by omega) (hC _ _ (by decide)) rfl (hd _ _ r1 r2) ?_
        refine j_istore X (q := 43) d_M_closes_41 (Nat.le_of_ble_eq_true rfl) rfl ?_
        refine j_iload X (q := 45) d_M_closes_43 rfl rfl ?_
        refine j_iload_n X (q := 46) d_M_closes_45 rfl rfl ?_
        refine j_callS X (n := 1) d_M_closes_46 (c_M_mask hI hk σ) wl608 wl609 wl42 wl610 (by decide +kernel) ⟨rfl, rfl⟩ (by decide) rfl rfl (Nat.le_of_ble_eq_true rfl) rfl (q := 49) rfl (fun r46 τ46 e46 => ?_)
        obtain ⟨rfl, rfl⟩ := e46
        refine j_iand X (q := 50) d_M_closes_49 rfl ?_
        refine j_if_ne X (tgt := 55) (q := 53) d_M_closes_50 (by decide) rfl (fun h50 => ?_) (fun h50 => ?_)
        · have _b50 := True.intro
          have eok : jok h k (row i) (row (jnx n i)) := Classical.byContradiction (fun z => h50 (jok_mask.mpr z))
          refine j_iload X (q := 57) d_M_closes_55 rfl rfl ?_
          refine j_iconst X (v := (nI 3)) (q := 58) d_M_closes_57 (by decide +kernel) rfl ?_
          refine j_iand X (q := 59) d_M_closes_58 rfl ?_
          refine j_if_ne X (tgt := 68) (q := 62) d_M_closes_59 (by decide) rfl (fun h59 => ?_) (fun h59 => ?_)
          · have _b59 := True.intro
            have eb : ¬ jbare h n row i := fun z => h59 (b2.mpr ⟨jd_no.mpr (fun q => z (Or.inl q)), jd_no.mpr (fun q => z (Or.inr q))⟩)
            refine j_iload_n X (q := 69) d_M_closes_68 rfl rfl ?_
            refine j_istore_n X (j := 3) (q := 70) d_M_closes_69 rfl (Nat.le_of_ble_eq_true rfl) rfl ?_
            refine j_iload X (q := 72) d_M_closes_70 rfl rfl ?_
            refine j_iconst X (v := (nI 4)) (q := 73) d_M_closes_72 (by decide +kernel) rfl ?_
            refine j_iand X (q := 74) d_M_closes_73 rfl ?_
            refine j_if_eq X (tgt := 84) (q := 77) d_M_closes_74 (by decide) rfl (fun h74 => ?_) (fun h74 => ?_)
            · have _b74 := True.intro
              have eo : ¬ jover h n row i := jd_no.mp (b4.mp h74)
              refine j_iload X (q := 86) d_M_closes_84 rfl rfl ?_
              refine j_istore X (q := 88) d_M_closes_86 (Nat.le_of_ble_eq_true rfl) rfl ?_
              refine j_iinc X (q := 91) d_M_closes_88 rfl (j_inc1 _) rfl ?_
              refine j_goto X (tgt := 8) d_M_closes_91 (by decide) ?_
              refine jxW.to (L' := [some (.inr (40, 0)), some (.inl (nI k)), some (.inl (nI n)), some (.inl (nI (jcn (jbare h n row) (i + 1)))), some (.inl (nI (jcn (jover h n row) (i + 1)))), some (.inl (nI (i + 1))), none]) (by simp [jfg, jcn_n eb, jcn_n eo, nI_add]) ?_
              exact ih (i + 1) (by omega) (by omega) (fun j hj => by
                by_cases z : j = i
                · rw [z]; exact eok
                · exact hall j (by omega))
            · have _b74 := True.intro
              have eo : jover h n row i := Classical.byContradiction (fun z => h74 (b4.mpr (jd_no.mpr z)))
              refine j_iload X (q := 79) d_M_closes_77 rfl rfl ?_
              refine j_iconst X (v := (nI 1)) (q := 80) d_M_closes_79 (by decide +kernel) rfl ?_
              refine j_iadd X (q := 81) d_M_closes_80 rfl ?_
              refine j_goto X (tgt := 86) d_M_closes_81 (by decide) ?_
              refine j_istore X (q := 88) d_M_closes_86 (Nat.le_of_ble_eq_true rfl) rfl ?_
              refine j_iinc X (q := 91) d_M_closes_88 rfl (j_inc1 _) rfl ?_
              refine j_goto X (tgt := 8) d_M_closes_91 (by decide) ?_
              refine jxW.to (L' := [some (.inr (40, 0)), some (.inl (nI k)), some (.inl (nI n)), some (.inl (nI (jcn (jbare h n row) (i + 1)))), some (.inl (nI (jcn (jover h n row) (i + 1)))), some (.inl (nI (i + 1))), none]) (by simp [jfg, jcn_n eb, jcn_y eo, nI_add]) ?_
              exact ih (i + 1) (by omega) (by omega) (fun j hj => by
                by_cases z : j = i
                · rw [z]; exact eok
                · exact hall j (by omega))
          · have _b59 := True.intro
            have eb : jbare h n row i := fun q => q.elim (jd_no.mp (b2.mp h59).1) (jd_no.mp (b2.mp h59).2)
            refine j_iload_n X (q := 63) d_M_closes_62 rfl rfl ?_
            refine j_iconst X (v := (nI 1)) (q := 64) d_M_closes_63 (by decide +kernel) rfl ?_
            refine j_iadd X (q := 65) d_M_closes_64 rfl ?_
            refine j_goto X (tgt := 69) d_M_closes_65 (by decide) ?_
            refine j_istore_n X (j := 3) (q := 70) d_M_closes_69 rfl (Nat.le_of_ble_eq_true rfl) rfl ?_
            refine j_iload X (q := 72) d_M_closes_70 rfl rfl ?_
            refine j_iconst X (v := (nI 4)) (q := 73) d_M_closes_72 (by decide +kernel) rfl ?_
            refine j_iand X (q := 74) d_M_closes_73 rfl ?_
            refine j_if_eq X (tgt := 84) (q := 77) d_M_closes_74 (by decide) rfl (fun h74 => ?_) (fun h74 => ?_)
            · have _b74 := True.intro
              have eo : ¬ jover h n row i := jd_no.mp (b4.mp h74)
              refine j_iload X (q := 86) d_M_closes_84 rfl rfl ?_
              refine j_istore X (q := 88) d_M_closes_86 (Nat.le_of_ble_eq_true rfl) rfl ?_
              refine j_iinc X (q := 91) d_M_closes_88 rfl (j_inc1 _) rfl ?_
              refine j_goto X (tgt := 8) d_M_closes_91 (by decide) ?_
              refine jxW.to (L' := [some (.inr (40, 0)), some (.inl (nI k)), some (.inl (nI n)), some (.inl (nI (jcn (jbare h n row) (i + 1)))), some (.inl (nI (jcn (jover h n row) (i + 1)))), some (.inl (nI (i + 1))), none]) (by simp [jfg, jcn_y eb, jcn_n eo, nI_add]) ?_
              exact ih (i + 1) (by omega) (by omega) (fun j hj => by
                by_cases z : j = i
                · rw [z]; exact eok
                · exact hall j (by omega))
            · have _b74 := True.intro
              have eo : jover h n row i := Classical.byContradiction (fun z => h74 (b4.mpr (jd_no.mpr z)))
              refine j_iload X (q := 79) d_M_closes_77 rfl rfl ?_
              refine j_iconst X (v := (nI 1)) (q := 80) d_M_closes_79 (by decide +kernel) rfl ?_
              refine j_iadd X (q := 81) d_M_closes_80 rfl ?_
              refine j_goto X (tgt := 86) d_M_closes_81 (by decide) ?_
              refine j_istore X (q := 88) d_M_closes_86 (Nat.le_of_ble_eq_true rfl) rfl ?_
              refine j_iinc X (q := 91) d_M_closes_88 rfl (j_inc1 _) rfl ?_
              refine j_goto X (tgt := 8) d_M_closes_91 (by decide) ?_
              refine jxW.to (L' := [some (.inr (40, 0)), some (.inl (nI k)), some (.inl (nI n)), some (.inl (nI (jcn (jbare h n row) (i + 1)))), some (.inl (nI (jcn (jover h n row) (i + 1)))), some (.inl (nI (i + 1))), none]) (by simp [jfg, jcn_y eb, jcn_y eo, nI_add]) ?_
              exact ih (i + 1) (by omega) (by omega) (fun j hj => by
                by_cases z : j = i
                · rw [z]; exact eok
                · exact hall j (by omega))
        · have _b50 := True.intro
          have enok := jok_mask.mp h50
          refine j_iconst X (v := (nI 0)) (q := 54) d_M_closes_53 (by decide +kernel) rfl ?_
          refine j_zret X d_M_closes_54 (by decide +kernel) ?_
          exact ⟨by rw [jd_no.mpr (fun q => enok ((hc.mp q).1 i (by omega)))]; rfl, rfl⟩
  refine j_iconst X (v := (nI 0)) (q := 1) d_M_closes_0 (by decide +kernel) rfl ?_
  refine j_istore_n X (j := 3) (q := 2) d_M_closes_1 rfl (Nat.le_of_ble_eq_true rfl) rfl ?_
  refine j_iconst X (v := (nI 0)) (q := 3) d_M_closes_2 (by decide +kernel) rfl ?_
  refine j_istore X (q := 5) d_M_closes_3 (Nat.le_of_ble_eq_true rfl) rfl ?_
  refine j_iconst X (v := (nI 0)) (q := 6) d_M_closes_5 (by decide +kernel) rfl ?_
  refine j_istore X (q := 8) d_M_closes_6 (Nat.le_of_ble_eq_true rfl) rfl ?_
  refine jxW.to (L' := [some (.inr (40, 0)), some (.inl (nI k)), some (.inl (nI n)), some (.inl (nI (jcn (jbare h n row) 0))), some (.inl (nI (jcn (jover h n row) 0))), some (.inl (nI 0)), none]) (by simp [jfg, jcn]) ?_
  exact K 9 0 (by omega) (by omega) (fun j hj => by omega)
/-- t may stand at place d behind the row so far -/
def jfp (h : jH) (k d t : Nat) (row : Nat → Nat) : Prop := hyS h t = 2 ∧ (d = 0 ∨ (row 0 < t ∧ (∀ i, i < d → row i ≠ t) ∧ jok h k (row (d - 1)) t))
set_option maxRecDepth 100000 in
set_option maxHeartbeats 4000000 in
theorem c_M_fits {l : Launch} {Θ : jxT} (hI : jxI Θ) (hC : ∀ g r, r < jrwM g → Θ.2.2.2 g r) {h : jH} {v : jV} {σ : jxM} (hw : jHw h) (hv : jVc h v) (hm : jMs h v σ) (hd : jDr h σ) {k d t : Nat} {row : Nat → Nat} (hk : k < 4) (hd8 : d ≤ 8) (ht : t < 8) (hr : jRo d row σ) : jxMet l y_M_fits b_M_fits 4 (some FieldType.boolean) (jrm 2) Θ [.inr (40, 0), .inl (nI k), .inl (nI d), .inl (nI t)] σ (jan (jB (jd (jfp h k d t row))) σ) := by
  refine jxMet.of (own := "HistoryJudgeModel") hI (by decide) rfl (Nat.le_of_ble_eq_true rfl) (fun Γ X => ?_)
  show jxW Γ Θ (jan (jB (jd (jfp h k d t row))) σ) 0 [some (.inr (40, 0)), some (.inl (nI k)), some (.inl (nI d)), some (.inl (nI t))] [] σ
  refine j_aload_n X (q := 1) d_M_fits_0 rfl rfl ?_
  refine j_iload_n X (q := 2) d_M_fits_1 rfl rfl ?_
  refine j_callV X (n := 1) (C := jR5) (T := jT5) (N := 18) d_M_fits_2 (c_M_isCommitted hI hC hw hv hm ht) rfl rfl (hC _ _ (by decide)) wl574 wl575 wl19 wl42 wl576 (by decide +kernel) ⟨rfl, rfl⟩ (by decide) rfl rfl (Nat.le_of_ble_eq_true rfl) rfl (q := 5) rfl (fun r2 τ2 e2 => ?_)
  obtain ⟨rfl, rfl⟩ := e2
  refine j_bif_ne X (tgt := 10) (q := 8) d_M_fits_5 (by decide) rfl (fun h5 => ?_) (fun h5 => ?_)
  · have _b5 := True.intro
    refine j_iload_n X (q := 11) d_M_fits_10 rfl rfl ?_
    refine j_nif_eq X (tgt := 59) (q := 14) d_M_fits_11 (by decide) rfl (by omega) (fun h11 => ?_) (fun h11 => ?_)
    · have _b11 := True.intro
      refine j_iconst X (v := (nI 1)) (q := 60) d_M_fits_59 (by decide +kernel) rfl ?_
      refine j_goto X (tgt := 64) d_M_fits_60 (by decide) ?_
      refine j_zret X d_M_fits_64 (by decide +kernel) ?_
      exact ⟨by rw [jd_iff.mpr ⟨by simpa using h5, Or.inl h11⟩]; rfl, rfl⟩
    · have _b11 := True.intro
      refine j_iload_n X (q := 15) d_M_fits_14 rfl rfl ?_
      refine j_aload_n X (q := 16) d_M_fits_15 rfl rfl ?_
      refine j_getR X (C := jR5) (T := jT5) (N := 18) (ci := 5) (j := 14) (q := 19) d_M_fits_16 ju5 rfl rfl rfl (by decide) wl497 rfl (hC _ _ (by decide)) rfl ?_
      refine j_iconst X (v := (nI 0)) (q := 20) d_M_fits_19 (by decide +kernel) rfl ?_
      refine j_iald X (q := 21) d_M_fits_20 rfl (by decide) rfl (by omega) (hC _ _ (by decide)) rfl (hr 0 (by omega)).2 ?_
      refine j_ncmp_le X (tgt := 63) (q := 24) d_M_fits_21 (by decide) rfl (by omega) (by have := (hr 0 (by omega)).1; omega) (fun h21 => ?_) (fun h21 => ?_)
      · have _b21 := True.intro
        refine j_iconst X (v := (nI 0)) (q := 64) d_M_fits_63 (by decide +kernel) rfl ?_
        refine j_zret X d_M_fits_64 (by decide +kernel) ?_
        exact ⟨by rw [jd_no.mpr (fun q => q.2.elim h11 (fun z => by omega))]; rfl, rfl⟩
      · have _b21 := True.intro
        refine j_aload_n X (q := 25) d_M_fits_24 rfl rfl ?_
        refine j_iload_n X (q := 26) d_M_fits_25 rfl rfl ?_
        refine j_iload_n X (q := 27) d_M_fits_26 rfl rfl ?_
        refine j_callV X (n := 2) (C := jR5) (T := jT5) (N := 18) d_M_fits_27 (c_M_inRow hI hC (t := t) (n := d) (row := row) (by omega) (by omega) hr) rfl rfl (hC _ _ (by decide)) wl605 wl606 wl28 wl42 wl607 (by decide +kernel) ⟨rfl, rfl⟩ (by decide) rfl rfl (Nat.le_of_ble_eq_true rfl) rfl (q := 30) rfl (fun r27 τ27 e27 => ?_)
        obtain ⟨rfl, rfl⟩ := e27
        refine j_bif_ne X (tgt := 63) (q := 33) d_M_fits_30 (by decide) rfl (fun h30 => ?_) (fun h30 => ?_)
        · have _b30 := True.intro
          refine j_iconst X (v := (nI 0)) (q := 64) d_M_fits_63 (by decide +kernel) rfl ?_
          refine j_zret X d_M_fits_64 (by decide +kernel) ?_
          exact ⟨by rw [jd_no.mpr (fun q => q.2.elim h11 (fun z => by obtain ⟨i, y1, y2⟩ := jd_iff.mp h30; exact z.2.1 i y1 y2))]; rfl, rfl⟩
        · have _b30 := True.intro
          refine j_aload_n X (q := 34) d_M_fits_33 rfl rfl ?_
          refine j_getR X (C := jR5) (T := jT5) (N := 18) (ci := 5) (j := 13) (q := 37) d_M_fits_34 ju5 rfl rfl rfl (by decide) wl496 rfl (hC _ _ (by decide)) rfl ?_
          refine j_bipush X (v := (nI 8)) (q := 39) d_M_fits_37 (by decide +kernel) rfl ?_
          refine j_aload_n X (q := 40) d_M_fits_39 rfl rfl ?_
          refine j_getR X (C := jR5) (T := jT5) (N := 18) (ci := 5) (j := 14) (q := 43) d_M_fits_40 ju5 rfl rfl rfl (by decide) wl497 rfl (hC _ _ (by decide)) rfl ?_
          refine j_iload_n X (q := 44) d_M_fits_43 rfl rfl ?_
          refine j_iconst X (v := (nI 1)) (q := 45) d_M_fits_44 (by decide +kernel) rfl ?_
          refine j_isub X (q := 46) d_M_fits_45 rfl ?_
          refine j_iald X (j := d - 1) (q := 47) d_M_fits_46 rfl (by decide) (pk_sub (by omega)) (by omega) (hC _ _ (by decide)) rfl (hr (d - 1) (by omega)).2 ?_
          refine j_imul X (q := 48) d_M_fits_47 rfl ?_
          refine j_iload_n X (q := 49) d_M_fits_48 rfl rfl ?_
          refine j_iadd X (q := 50) d_M_fits_49 rfl ?_
          refine j_iald X (j := 8 * row (d - 1) + t) (q := 51) d_M_fits_50 rfl (by decide) (j_ix 8 _ _) (by have := (hr (d - 1) (by omega)).1; omega) (hC _ _ (by decide)) rfl (hd _ _ (hr (d - 1) (by omega)).1 ht) ?_
          refine j_iload_n X (q := 52) d_M_fits_51 rfl rfl ?_
          refine j_callS X (n := 1) d_M_fits_52 (c_M_mask hI hk σ) wl608 wl609 wl42 wl610 (by decide +kernel) ⟨rfl, rfl⟩ (by decide) rfl rfl (Nat.le_of_ble_eq_true rfl) rfl (q := 55) rfl (fun r52 τ52 e52 => ?_)
          obtain ⟨rfl, rfl⟩ := e52
          refine j_iand X (q := 56) d_M_fits_55 rfl ?_
          refine j_if_eq X (tgt := 63) (q := 59) d_M_fits_56 (by decide) rfl (fun h56 => ?_) (fun h56 => ?_)
          · have _b56 := True.intro
            refine j_iconst X (v := (nI 0)) (q := 64) d_M_fits_63 (by decide +kernel) rfl ?_
            refine j_zret X d_M_fits_64 (by decide +kernel) ?_
            exact ⟨by rw [jd_no.mpr (fun q => q.2.elim h11 (fun z => jok_mask.mp h56 z.2.2))]; rfl, rfl⟩
          · have _b56 := True.intro
            refine j_iconst X (v := (nI 1)) (q := 60) d_M_fits_59 (by decide +kernel) rfl ?_
            refine j_goto X (tgt := 64) d_M_fits_60 (by decide) ?_
            refine j_zret X d_M_fits_64 (by decide +kernel) ?_
            exact ⟨by rw [jd_iff.mpr ⟨by simpa using h5, Or.inr ⟨by omega, fun i hi e => jd_no.mp h30 ⟨i, hi, e⟩, Classical.byContradiction (fun z => h56 (jok_mask.mpr z))⟩⟩]; rfl, rfl⟩
  · have _b5 := True.intro
    refine j_iconst X (v := (nI 0)) (q := 9) d_M_fits_8 (by decide +kernel) rfl ?_
    refine j_zret X d_M_fits_9 (by decide +kernel) ?_
    exact ⟨by rw [jd_no.mpr (fun q => by rw [decide_eq_true q.1] at h5; cases h5)]; rfl, rfl⟩
