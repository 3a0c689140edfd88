/-! The reference: how many committed; one transaction run behind others. -/
def jcf (C : Nat → Bool) : Nat → Nat
  | 0 => 0
  | k + 1 => if C k then jcf C k + 1 else jcf C k
theorem jcf_len (C : Nat → Bool) : ∀ k, ((List.range k).filter C).length = jcf C k := by
  intro k
  induction k with
  | zero => rfl
  | succ k ih =>
    rw [List.range_succ, List.filter_append, List.length_append, ih, jcf]
    cases h : C k <;> simp [h]
theorem jcf_ct (C : Nat → Bool) : jcf C 8 = jct C := (jcf_len C 8).symm
theorem jcf_le (C : Nat → Bool) : ∀ k, jcf C k ≤ k
  | 0 => Nat.le_refl _
  | k + 1 => by
    have := jcf_le C k
    rw [jcf]
    split <;> omega
theorem jct_le (C : Nat → Bool) : jct C ≤ 8 := by rw [← jcf_ct]; exact jcf_le C 8
theorem jcf_y {C : Nat → Bool} {k : Nat} (h : C k = true) : jcf C (k + 1) = jcf C k + 1 := by rw [jcf, if_pos h]
theorem jcf_n {C : Nat → Bool} {k : Nat} (h : C k = false) : jcf C (k + 1) = jcf C k := by rw [jcf, if_neg (by rw [h]; decide)]
theorem jcf_ext {C D : Nat → Bool} : ∀ k, (∀ i, i < k → C i = D i) → jcf C k = jcf D k
  | 0, _ => rfl
  | k + 1, h => by rw [jcf, jcf, jcf_ext k (fun i hi => h i (by omega)), h k (by omega)]
theorem jcf_rm {C : Nat → Bool} {t : Nat} (hc : C t = true) : ∀ k, t < k → jcf (fun i => C i && !decide (i = t)) k + 1 = jcf C k := by
  intro k
  induction k with
  | zero => intro h; omega
  | succ k ih =>
    intro h
    by_cases e : t = k
    · subst e
      rw [jcf_n (by simp), jcf_y hc, jcf_ext (D := C) t (fun i hi => by simp [show i ≠ t by omega])]
    · have := ih (by omega)
      cases hk : C k with
      | true => rw [jcf_y (by simp [hk]; omega), jcf_y hk]; omega
      | false => rw [jcf_n (by simp [hk]), jcf_n hk]; exact this
theorem jct_bd : ∀ (n : Nat) (C : Nat → Bool) (r : Nat → Nat), (∀ i, i < n → r i < 8 ∧ C (r i) = true) → (∀ i j, i < n → j < n → r i = r j → i = j) → n ≤ jct C := by
  intro n
  induction n with
  | zero => intro C r _ _; omega
  | succ n ih =>
    intro C r h1 h2
    have hb := ih (fun i => C i && !decide (i = r n)) r (fun i hi => ⟨(h1 i (by omega)).1, by
      have : r i ≠ r n := fun q => by have := h2 i n (by omega) (by omega) q; omega
      simp [(h1 i (by omega)).2, this]⟩) (fun i j hi hj => h2 i j (by omega) (by omega))
    have := jcf_rm (h1 n (by omega)).2 8 (h1 n (by omega)).1
    rw [← jcf_ct] at hb ⊢
    omega
theorem jpm_of {C : Nat → Bool} {r : Nat → Nat} (h1 : ∀ i, i < jct C → r i < 8 ∧ C (r i) = true) (h2 : ∀ i j, i < jct C → j < jct C → r i = r j → i = j) : jpm C (jct C) r := by
  refine ⟨h1, h2, fun t ht hc => Classical.byContradiction (fun hno => ?_)⟩
  have no : ∀ i, i < jct C → r i ≠ t := fun i hi e => hno ⟨i, hi, e⟩
  have := jct_bd (jct C + 1) C (fun i => if i = jct C then t else r i) (fun i hi => by
    by_cases e : i = jct C
    · simp only [e, if_true]; exact ⟨ht, hc⟩
    · simp only [e, if_false]; exact h1 i (by omega)) (fun i j hi hj q => by
    by_cases e : i = jct C
    · by_cases f : j = jct C
      · omega
      · simp only [e, if_true, f, if_false] at q; exact absurd q.symm (no j (by omega))
    · by_cases f : j = jct C
      · simp only [e, if_false, f, if_true] at q; exact absurd q (no i (by omega))
      · simp only [e, f, if_false] at q; exact h2 i j (by omega) (by omega) q)
  omega
def jov (o o' : Option Nat) : Option Nat := match o with
  | some w => some w
  | none => o'
theorem jla_succ (lt : Nat → Nat → Option Nat) (r : Nat → Nat) (i x : Nat) : jla lt r (i + 1) x = jov (lt (r i) x) (jla lt r i x) := by
  rw [jla]; unfold jov; cases lt (r i) x <;> rfl
theorem jla_ext {lt : Nat → Nat → Option Nat} {r r' : Nat → Nat} {x : Nat} : ∀ i, (∀ j, j < i → r j = r' j) → jla lt r i x = jla lt r' i x
  | 0, _ => rfl
  | i + 1, h => by rw [jla_succ, jla_succ, h i (by omega), jla_ext i (fun j hj => h j (by omega))]
theorem jlw_lt {h : jH} {v : jV} (hv : jVc h v) {t x : Nat} : ∀ e, e ≤ evE v → ∀ w, jlw v t x e = some w → w < hyV h
  | 0, _, w, q => by cases q
  | e + 1, he, w, q => by
    rw [jlw] at q
    by_cases c : evb v e = true ∧ evw v e = t ∧ evx v e = x
    · rw [if_pos c] at q; exact jVc_v hv (by omega) q
    · rw [if_neg c] at q; exact jlw_lt hv e (by omega) w q
theorem jov_lt {o o' : Option Nat} {n : Nat} (h : ∀ w, o = some w → w < n) (h' : ∀ w, o' = some w → w < n) : ∀ w, jov o o' = some w → w < n := by
  intro w q
  cases o with
  | some u => exact h w q
  | none => exact h' w q
/-- event e, if t's read, reads what stands -/
def jrE (v : jV) (t : Nat) (L : Nat → Option Nat) (e : Nat) : Prop := evw v e = t → evb v e = false → jov (jlw v t (evx v e) e) (L (evx v e)) = evv v e
/-- t's reads, behind the first d of the row -/
def jrdT (h : jH) (row : Nat → Nat) (d t : Nat) : Prop := ∀ p, p < hyR h → hyrd h p = t → match hyro h p with
  | some o => hyrv h p = some o
  | none => jla (hylt h) row d (hyri h p) = hyrv h p
theorem jrdT_rd {h : jH} {row : Nat → Nat} {i : Nat} : jrdT h row i (row i) ↔ jrd (hyR h) (hyrd h) (hyri h) (hyrv h) (hyro h) (hylt h) row i := Iff.rfl
theorem jrdT_ext {h : jH} {row r : Nat → Nat} {d t : Nat} (e : ∀ j, j < d → row j = r j) : jrdT h row d t ↔ jrdT h r d t := by
  unfold jrdT
  have q : ∀ x, jla (hylt h) row d x = jla (hylt h) r d x := fun x => jla_ext d e
  simp only [q]
theorem jrE_T {h : jH} {v : jV} (hv : jVc h v) {row : Nat → Nat} {d t : Nat} : (∀ e, e < evE v → jrE v t (jla (hylt h) row d) e) ↔ jrdT h row d t := by
  obtain ⟨-, -, -, -, ⟨pe, p1, p2⟩, -⟩ := hv
  constructor
  · intro q p hp ht
    obtain ⟨r1, r2, r3, r4, r5, r6⟩ := p1 p hp
    have := q (pe p) r1 (by rw [r3]; exact ht) r2
    rw [r4, r5, ← ht, ← r6] at this
    revert this
    cases hyro h p with
    | some o => exact fun z => z.symm
    | none => exact fun z => z
  · intro q e he hw hb
    obtain ⟨p, hp, rfl⟩ := p2 e he hb
    obtain ⟨r1, r2, r3, r4, r5, r6⟩ := p1 p hp
    have ht : hyrd h p = t := by rw [← r3]; exact hw
    have := q p hp ht
    rw [r4, r5, ← ht, ← r6]
    revert this
    cases hyro h p with
    | some o => exact fun z => z.symm
    | none => exact fun z => z
set_option maxRecDepth 100000 in
set_option maxHeartbeats 4000000 in
theorem c_M_committed {l : Launch} {Θ : jxT} (hI : jxI Θ) (hC : ∀ g r, r < jrwM g → Θ.2.2.2 g r) {h : jH} {v : jV} {σ : jxM} (hw : jHw h) (hv : jVc h v) (hm : jMs h v σ)  : jxMet l y_M_committed b_M_committed 3 (some FieldType.int) (jrm 2) Θ [.inr (40, 0)] σ (jan (nI (jct (jcmt h))) σ) := by
  refine jxMet.of (own := "HistoryJudgeModel") hI (by decide) rfl (Nat.le_of_ble_eq_true rfl) (fun Γ X => ?_)
  show jxW Γ Θ (jan (nI (jct (jcmt h))) σ) 0 [some (.inr (40, 0)), none, none] [] σ
  have K : ∀ (N : Nat) (k : Nat), 8 - k < N → k ≤ 8 → jxW Γ Θ (jan (nI (jct (jcmt h))) σ) 4 [some (.inr (40, 0)), some (.inl (nI (jcf (jcmt h) k))), some (.inl (nI k))] [] σ := by
    intro N
    induction N with
    | zero => intro k hn; exact absurd hn (Nat.not_lt_zero _)
    | succ N ih =>
      intro k hn hk
      refine j_iload_n X (q := 5) d_M_committed_4 rfl rfl ?_
      refine j_bipush X (v := (nI 8)) (q := 7) d_M_committed_5 (by decide +kernel) rfl ?_
      refine j_ncmp_ge X (tgt := 32) (q := 10) d_M_committed_7 (by decide) rfl (by omega) (by omega) (fun h7 => ?_) (fun h7 => ?_)
      · have _b7 := True.intro
        refine j_iload_n X (q := 33) d_M_committed_32 rfl rfl ?_
        refine j_iret X d_M_committed_33 ?_
        have e : k = 8 := by omega
        subst e
        exact ⟨by rw [jcf_ct], rfl⟩
      · have _b7 := True.intro
        refine j_aload_n X (q := 11) d_M_committed_10 rfl rfl ?_
        refine j_iload_n X (q := 12) d_M_committed_11 rfl rfl ?_
        refine j_callV X (n := 1) (C := jR5) (T := jT5) (N := 18) d_M_committed_12 (c_M_isCommitted hI hC hw hv hm (show k < 8 by omega)) rfl rfl (hC _ _ (by decide)) wl574 wl575 wl19 wl42 wl576 (by decide +kernel) ⟨rfl, rfl⟩ (by decide) rfl rfl (Nat.le_of_ble_eq_true rfl) rfl (q := 15) rfl (fun r12 τ12 e12 => ?_)
        obtain ⟨rfl, rfl⟩ := e12
        refine j_bif_eq X (tgt := 24) (q := 18) d_M_committed_15 (by decide) rfl (fun h15 => ?_) (fun h15 => ?_)
        · have _b15 := True.intro
          refine j_iload_n X (q := 25) d_M_committed_24 rfl rfl ?_
          refine j_istore_n X (j := 1) (q := 26) d_M_committed_25 rfl (Nat.le_of_ble_eq_true rfl) rfl ?_
          refine j_iinc X (q := 29) d_M_committed_26 rfl (j_inc1 _) rfl ?_
          refine j_goto X (tgt := 4) d_M_committed_29 (by decide) ?_
          refine jxW.to (L' := [some (.inr (40, 0)), some (.inl (nI (jcf (jcmt h) (k + 1)))), some (.inl (nI (k + 1)))]) (by simp [jfg, jcf_n (C := jcmt h) h15]) ?_
          exact ih (k + 1) (by omega) (by omega)
        · have _b15 := True.intro
          refine j_iload_n X (q := 19) d_M_committed_18 rfl rfl ?_
          refine j_iconst X (v := (nI 1)) (q := 20) d_M_committed_19 (by decide +kernel) rfl ?_
          refine j_iadd X (q := 21) d_M_committed_20 rfl ?_
          refine j_goto X (tgt := 25) d_M_committed_21 (by decide) ?_
          refine j_istore_n X (j := 1) (q := 26) d_M_committed_25 rfl (Nat.le_of_ble_eq_true rfl) rfl ?_
          refine j_iinc X (q := 29) d_M_committed_26 rfl (j_inc1 _) rfl ?_
          refine j_goto X (tgt := 4) d_M_committed_29 (by decide) ?_
          refine jxW.to (L' := [some (.inr (40, 0)), some (.inl (nI (jcf (jcmt h) (k + 1)))), some (.inl (nI (k + 1)))]) (by simp [jfg, jcf_y (C := jcmt h) h15, nI_add]) ?_
          exact ih (k + 1) (by omega) (by omega)
  refine j_iconst X (v := (nI 0)) (q := 1) d_M_committed_0 (by decide +kernel) rfl ?_
  refine j_istore_n X (j := 1) (q := 2) d_M_committed_1 rfl (Nat.le_of_ble_eq_true rfl) rfl ?_
  refine j_iconst X (v := (nI 0)) (q := 3) d_M_committed_2 (by decide +kernel) rfl ?_
  refine j_istore_n X (j := 2) (q := 4) d_M_committed_3 rfl (Nat.le_of_ble_eq_true rfl) rfl ?_
  exact K 9 0 (by omega) (by omega)
set_option maxRecDepth 100000 in
set_option maxHeartbeats 4000000 in
theorem c_M_runs {l : Launch} {Θ : jxT} (hI : jxI Θ) (hC : ∀ g r, r < jrwM g → Θ.2.2.2 g r) {h : jH} {v : jV} {σ : jxM} (hw : jHw h) (hv : jVc h v) (hm : jMs h v σ) {d t : Nat} {L : Nat → Option Nat} (hd : d < 8) (ht : t < 8) (hL : ∀ x, x < 6 → σ 53 0 (6 * d + x) = vI (L x)) (hLb : ∀ x, x < 6 → ∀ w, L x = some w → w < hyV h) : jxMet l y_M_runs b_M_runs 5 (some FieldType.boolean) (jrm 1) Θ [.inr (40, 0), .inl (nI d), .inl (nI t)] σ (fun r' σ' => r' = some (.inl (jB (jd (∀ e, e < evE v → jrE v t L e)))) ∧ ((∀ e, e < evE v → jrE v t L e) → ∀ x, x < 6 → σ' 53 0 (6 * d + 6 + x) = vI (jov (hylt h t x) (L x))) ∧ (∀ g', g' ≠ 53 → σ' g' = σ g') ∧ ∀ j, j < 6 * d + 6 → σ' 53 0 j = σ 53 0 j) := by
  refine jxMet.of (own := "HistoryJudgeModel") hI (by decide) rfl (Nat.le_of_ble_eq_true rfl) (fun Γ X => ?_)
  show jxW Γ Θ (fun r' σ' => r' = some (.inl (jB (jd (∀ e, e < evE v → jrE v t L e)))) ∧ ((∀ e, e < evE v → jrE v t L e) → ∀ x, x < 6 → σ' 53 0 (6 * d + 6 + x) = vI (jov (hylt h t x) (L x))) ∧ (∀ g', g' ≠ 53 → σ' g' = σ g') ∧ ∀ j, j < 6 * d + 6 → σ' 53 0 j = σ 53 0 j) 0 [some (.inr (40, 0)), some (.inl (nI d)), some (.inl (nI t)), none, none] [] σ
  have bV := jHw_V hw
  have bE := jVc_E hw hv
  have Q : ∀ (N : Nat) (e : Nat) (σ1 : jxM), evE v - e < N → e ≤ evE v → (∀ x, x < 6 → σ1 53 0 (6 * d + 6 + x) = vI (jov (jlw v t x e) (L x))) → (∀ g', g' ≠ 53 → σ1 g' = σ g') → (∀ j, j < 6 * d + 6 → σ1 53 0 j = σ 53 0 j) → (∀ e', e' < e → jrE v t L e') → jxW Γ Θ (fun r' σ' => r' = some (.inl (jB (jd (∀ e, e < evE v → jrE v t L e)))) ∧ ((∀ e, e < evE v → jrE v t L e) → ∀ x, x < 6 → σ' 53 0 (6 * d + 6 + x) = vI (jov (hylt h t x) (L x))) ∧ (∀ g', g' ≠ 53 → σ' g' = σ g') ∧ ∀ j, j < 6 * d + 6 → σ' 53 0 j = σ 53 0 j) 41 [some (.inr (40, 0)), some (.inl (nI d)), some (.inl (nI t)), some (.inl (nI e)), none] [] σ1 := by
    intro N
    induction N with
    | zero => intro e σ1 hn; exact absurd hn (Nat.not_lt_zero _)
    | succ N ih =>
      intro e σ1 hn he hl hf hj hr
      refine j_iload_n X (q := 42) d_M_runs_41 rfl rfl ?_
      refine j_aload_n X (q := 43) d_M_runs_42 rfl rfl ?_
      refine j_getI X (C := jR5) (T := jT5) (N := 18) (ci := 5) (j := 6) (q := 46) d_M_runs_43 ju5 rfl rfl rfl (by decide) wl489 rfl (hC _ _ (by decide)) rfl (jMs_E (jMs_keep hm ⟨fun g h1 h2 => hf g (by omega), fun j _ _ => by rw [hf 40 (by decide)]⟩)) ?_
      refine j_ncmp_ge X (tgt := 134) (q := 49) d_M_runs_46 (by decide) rfl (by omega) (by omega) (fun h46 => ?_) (fun h46 => ?_)
      · have _b46 := True.intro
        refine j_iconst X (v := (nI 1)) (q := 135) d_M_runs_134 (by decide +kernel) rfl ?_
        refine j_zret X d_M_runs_135 (by decide +kernel) ?_
        have ee : e = evE v := by omega
        subst ee
        exact ⟨by rw [jd_iff.mpr hr]; rfl, fun _ x hx => by rw [hv.2.2.2.1 t x]; exact hl x hx, hf, hj⟩
      · have _b46 := True.intro
        have cx := jVc_x hv (show e < evE v by omega)
        have cw := jVc_w hv (show e < evE v by omega)
        refine j_bipush X (v := (nI 6)) (q := 51) d_M_runs_49 (by decide +kernel) rfl ?_
        refine j_iload_n X (q := 52) d_M_runs_51 rfl rfl ?_
        refine j_imul X (q := 53) d_M_runs_52 rfl ?_
        refine j_bipush X (v := (nI 6)) (q := 55) d_M_runs_53 (by decide +kernel) rfl ?_
        refine j_iadd X (q := 56) d_M_runs_55 rfl ?_
        refine j_aload_n X (q := 57) d_M_runs_56 rfl rfl ?_
        refine j_getR X (C := jR5) (T := jT5) (N := 18) (ci := 5) (j := 8) (q := 60) d_M_runs_57 ju5 rfl rfl rfl (by decide) wl491 rfl (hC _ _ (by decide)) rfl ?_
        refine j_iload_n X (q := 61) d_M_runs_60 rfl rfl ?_
        refine j_iald X (q := 62) d_M_runs_61 rfl (by decide) rfl (by omega) (hC _ _ (by decide)) rfl (jMs_x (jMs_keep hm ⟨fun g h1 h2 => hf g (by omega), fun j _ _ => by rw [hf 40 (by decide)]⟩) (show e < evE v by omega)) ?_
        refine j_iadd X (q := 63) d_M_runs_62 rfl ?_
        refine j_istore X (q := 65) d_M_runs_63 (Nat.le_of_ble_eq_true rfl) rfl ?_
        refine jxW.to (L' := [some (.inr (40, 0)), some (.inl (nI d)), some (.inl (nI t)), some (.inl (nI e)), some (.inl (nI (6 * d + 6 + evx v e)))]) (by simp [jfg]; rw [pk_mul, nI_add, nI_add]) ?_
        have J100 : (evw v e = t → evb v e = false) → jxW Γ Θ (fun r' σ' => r' = some (.inl (jB (jd (∀ e, e < evE v → jrE v t L e)))) ∧ ((∀ e, e < evE v → jrE v t L e) → ∀ x, x < 6 → σ' 53 0 (6 * d + 6 + x) = vI (jov (hylt h t x) (L x))) ∧ (∀ g', g' ≠ 53 → σ' g' = σ g') ∧ ∀ j, j < 6 * d + 6 → σ' 53 0 j = σ 53 0 j) 100 [some (.inr (40, 0)), some (.inl (nI d)), some (.inl (nI t)), some (.inl (nI e)), some (.inl (nI (6 * d + 6 + evx v e)))] [] σ1 := by
          intro himp
          refine j_aload_n X (q := 101) d_M_runs_100 rfl rfl ?_
          refine j_getR X (C := jR5) (T := jT5) (N := 18) (ci := 5) (j := 7) (q := 104) d_M_runs_101 ju5 rfl rfl rfl (by decide) wl490 rfl (hC _ _ (by decide)) rfl ?_
          refine j_iload_n X (q := 105) d_M_runs_104 rfl rfl ?_
          refine j_iald X (q := 106) d_M_runs_105 rfl (by decide) rfl (by omega) (hC _ _ (by decide)) rfl (jMs_w (jMs_keep hm ⟨fun g h1 h2 => hf g (by omega), fun j _ _ => by rw [hf 40 (by decide)]⟩) (show e < evE v by omega)) ?_
          refine j_iload_n X (q := 107) d_M_runs_106 rfl rfl ?_
          refine j_ncmp_ne X (tgt := 128) (q := 110) d_M_runs_107 (by decide) rfl (by have := jVc_w hv (show e < evE v by omega); omega) (by omega) (fun h107 => ?_) (fun h107 => ?_)
          · have _b107 := True.intro
            refine j_iinc X (q := 131) d_M_runs_128 rfl (j_inc1 _) rfl ?_
            refine j_goto X (tgt := 41) d_M_runs_131 (by decide) ?_
            refine jxW.to (L' := [some (.inr (40, 0)), some (.inl (nI d)), some (.inl (nI t)), some (.inl (nI (e + 1))), none]) (by simp [jfg]) ?_
            exact ih (e + 1) _ (by omega) (by omega) (fun x hx => by rw [show jlw v t x (e + 1) = jlw v t x e from if_neg (fun q => absurd q.2.1 h107)]; exact hl x hx) hf hj (fun e' he' => if z : e' = e then by subst z; exact fun q1 q2 => absurd q1 h107 else hr e' (by omega))
          · have _b107 := True.intro
            refine j_aload_n X (q := 111) d_M_runs_110 rfl rfl ?_
            refine j_getR X (C := jR5) (T := jT5) (N := 18) (ci := 5) (j := 17) (q := 114) d_M_runs_111 ju5 rfl rfl rfl (by decide) wl500 rfl (hC _ _ (by decide)) rfl ?_
            refine j_iload X (q := 116) d_M_runs_114 rfl rfl ?_
            refine j_iald X (j := 6 * d + 6 + evx v e) (q := 117) d_M_runs_116 rfl (by decide) rfl (by omega) (hC _ _ (by decide)) rfl (hl _ cx) ?_
            refine j_aload_n X (q := 118) d_M_runs_117 rfl rfl ?_
            refine j_getR X (C := jR5) (T := jT5) (N := 18) (ci := 5) (j := 9) (q := 121) d_M_runs_118 ju5 rfl rfl rfl (by decide) wl492 rfl (hC _ _ (by decide)) rfl ?_
            refine j_iload_n X (q := 122) d_M_runs_121 rfl rfl ?_
            refine j_iald X (q := 123) d_M_runs_122 rfl (by decide) rfl (by omega) (hC _ _ (by decide)) rfl (jMs_v (jMs_keep hm ⟨fun g h1 h2 => hf g (by omega), fun j _ _ => by rw [hf 40 (by decide)]⟩) (show e < evE v by omega)) ?_
            refine j_icmp_eq X (tgt := 128) (q := 126) d_M_runs_123 (by decide) rfl (fun h123 => ?_) (fun h123 => ?_)
            · have _b123 := True.intro
              have eq123 : jov (jlw v t (evx v e) e) (L (evx v e)) = evv v e := (vI_inj (fun w q => by have := jov_lt (jlw_lt hv e (by omega)) (hLb _ cx) w q; omega) (fun w q => by have := jVc_v hv (show e < evE v by omega) q; omega)).mp h123
              refine j_iinc X (q := 131) d_M_runs_128 rfl (j_inc1 _) rfl ?_
              refine j_goto X (tgt := 41) d_M_runs_131 (by decide) ?_
              refine jxW.to (L' := [some (.inr (40, 0)), some (.inl (nI d)), some (.inl (nI t)), some (.inl (nI (e + 1))), none]) (by simp [jfg]) ?_
              exact ih (e + 1) _ (by omega) (by omega) (fun x hx => by rw [show jlw v t x (e + 1) = jlw v t x e from if_neg (fun q => by have := himp h107; rw [this] at q; cases q.1)]; exact hl x hx) hf hj (fun e' he' => if z : e' = e then by subst z; exact fun q1 q2 => eq123 else hr e' (by omega))
            · have _b123 := True.intro
              have ne123 : ¬ jov (jlw v t (evx v e) e) (L (evx v e)) = evv v e := fun q => h123 (congrArg vI q)
              refine j_iconst X (v := (nI 0)) (q := 127) d_M_runs_126 (by decide +kernel) rfl ?_
              refine j_zret X d_M_runs_127 (by decide +kernel) ?_
              exact ⟨by rw [jd_no.mpr (fun q => ne123 (q e (by omega) h107 (himp h107)))]; rfl, fun q => absurd (q e (by omega) h107 (himp h107)) ne123, hf, hj⟩
        refine j_aload_n X (q := 66) d_M_runs_65 rfl rfl ?_
        refine j_getR X (C := jR5) (T := jT5) (N := 18) (ci := 5) (j := 7) (q := 69) d_M_runs_66 ju5 rfl rfl rfl (by decide) wl490 rfl (hC _ _ (by decide)) rfl ?_
        refine j_iload_n X (q := 70) d_M_runs_69 rfl rfl ?_
        refine j_iald X (q := 71) d_M_runs_70 rfl (by decide) rfl (by omega) (hC _ _ (by decide)) rfl (jMs_w (jMs_keep hm ⟨fun g h1 h2 => hf g (by omega), fun j _ _ => by rw [hf 40 (by decide)]⟩) (show e < evE v by omega)) ?_
        refine j_iload_n X (q := 72) d_M_runs_71 rfl rfl ?_
        refine j_ncmp_ne X (tgt := 100) (q := 75) d_M_runs_72 (by decide) rfl (by have := jVc_w hv (show e < evE v by omega); omega) (by omega) (fun h72 => ?_) (fun h72 => ?_)
        · have _b72 := True.intro
          exact J100 (fun q => absurd q h72)
        · have _b72 := True.intro
          refine j_aload_n X (q := 76) d_M_runs_75 rfl rfl ?_
          refine j_getR X (C := jR5) (T := jT5) (N := 18) (ci := 5) (j := 10) (q := 79) d_M_runs_76 ju5 rfl rfl rfl (by decide) wl493 rfl (hC _ _ (by decide)) rfl ?_
          refine j_iload_n X (q := 80) d_M_runs_79 rfl rfl ?_
          refine j_zald X (q := 81) d_M_runs_80 rfl (by decide) rfl (by omega) (hC _ _ (by decide)) rfl (jMs_b (jMs_keep hm ⟨fun g h1 h2 => hf g (by omega), fun j _ _ => by rw [hf 40 (by decide)]⟩) (show e < evE v by omega)) ?_
          refine j_bif_eq X (tgt := 100) (q := 84) d_M_runs_81 (by decide) rfl (fun h81 => ?_) (fun h81 => ?_)
          · have _b81 := True.intro
            exact J100 (fun q => h81)
          · have _b81 := True.intro
            refine j_aload_n X (q := 85) d_M_runs_84 rfl rfl ?_
            refine j_getR X (C := jR5) (T := jT5) (N := 18) (ci := 5) (j := 17) (q := 88) d_M_runs_85 ju5 rfl rfl rfl (by decide) wl500 rfl (hC _ _ (by decide)) rfl ?_
            refine j_iload X (q := 90) d_M_runs_88 rfl rfl ?_
            refine j_aload_n X (q := 91) d_M_runs_90 rfl rfl ?_
            refine j_getR X (C := jR5) (T := jT5) (N := 18) (ci := 5) (j := 9) (q := 94) d_M_runs_91 ju5 rfl rfl rfl (by decide) wl492 rfl (hC _ _ (by decide)) rfl ?_
            refine j_iload_n X (q := 95) d_M_runs_94 rfl rfl ?_
            refine j_iald X (q := 96) d_M_runs_95 rfl (by decide) rfl (by omega) (hC _ _ (by decide)) rfl (jMs_v (jMs_keep hm ⟨fun g h1 h2 => hf g (by omega), fun j _ _ => by rw [hf 40 (by decide)]⟩) (show e < evE v by omega)) ?_
            refine j_iast X (j := 6 * d + 6 + evx v e) (q := 97) d_M_runs_96 rfl (by decide) rfl (by omega) (hC _ _ (by decide)) rfl ?_
            refine j_goto X (tgt := 128) d_M_runs_97 (by decide) ?_
            refine j_iinc X (q := 131) d_M_runs_128 rfl (j_inc1 _) rfl ?_
            refine j_goto X (tgt := 41) d_M_runs_131 (by decide) ?_
            refine jxW.to (L' := [some (.inr (40, 0)), some (.inl (nI d)), some (.inl (nI t)), some (.inl (nI (e + 1))), none]) (by simp [jfg]) ?_
            refine ih (e + 1) _ (by omega) (by omega) (fun x hx => ?_) (fun g' hg => by rw [jxs_g _ _ _ _ _ hg, hf g' hg]) (fun j hj2 => by rw [jxs_at, if_neg (by omega)]; exact hj j hj2) (fun e' he' => if z : e' = e then by subst z; exact fun q1 q2 => by rw [h81] at q2; cases q2 else hr e' (by omega))
            rw [jxs_at]
            by_cases z : x = evx v e
            · subst z
              rw [if_pos ⟨rfl, rfl, rfl⟩, show jlw v t (evx v e) (e + 1) = evv v e from if_pos ⟨h81, h72, rfl⟩]
              obtain ⟨w, ew⟩ := Option.ne_none_iff_exists'.mp (hv.2.2.1 e (by omega) h81)
              rw [ew]; rfl
            · rw [if_neg (by omega), show jlw v t x (e + 1) = jlw v t x e from if_neg (fun q => z q.2.2.symm)]
              exact hl x hx
  have K : ∀ (N : Nat) (x : Nat) (σ1 : jxM), 6 - x < N → x ≤ 6 → (∀ y, y < x → σ1 53 0 (6 * d + 6 + y) = σ 53 0 (6 * d + y)) → (∀ g', g' ≠ 53 → σ1 g' = σ g') → (∀ j, j < 6 * d + 6 → σ1 53 0 j = σ 53 0 j) → jxW Γ Θ (fun r' σ' => r' = some (.inl (jB (jd (∀ e, e < evE v → jrE v t L e)))) ∧ ((∀ e, e < evE v → jrE v t L e) → ∀ x, x < 6 → σ' 53 0 (6 * d + 6 + x) = vI (jov (hylt h t x) (L x))) ∧ (∀ g', g' ≠ 53 → σ' g' = σ g') ∧ ∀ j, j < 6 * d + 6 → σ' 53 0 j = σ 53 0 j) 2 [some (.inr (40, 0)), some (.inl (nI d)), some (.inl (nI t)), some (.inl (nI x)), none] [] σ1 := by
    intro N
    induction N with
    | zero => intro x σ1 hn; exact absurd hn (Nat.not_lt_zero _)
    | succ N ih =>
      intro x σ1 hn hx hc hf hj
      refine j_iload_n X (q := 3) d_M_runs_2 rfl rfl ?_
      refine j_bipush X (v := (nI 6)) (q := 5) d_M_runs_3 (by decide +kernel) rfl ?_
      refine j_ncmp_ge X (tgt := 39) (q := 8) d_M_runs_5 (by decide) rfl (by omega) (by omega) (fun h5 => ?_) (fun h5 => ?_)
      · have _b5 := True.intro
        refine j_iconst X (v := (nI 0)) (q := 40) d_M_runs_39 (by decide +kernel) rfl ?_
        refine j_istore_n X (j := 3) (q := 41) d_M_runs_40 rfl (Nat.le_of_ble_eq_true rfl) rfl ?_
        refine jxW.to (L' := [some (.inr (40, 0)), some (.inl (nI d)), some (.inl (nI t)), some (.inl (nI 0)), none]) (by simp [jfg]) ?_
        exact Q (evE v + 1) 0 σ1 (by omega) (by omega) (fun y hy => by rw [hc y (by omega), hL y hy]; rfl) hf hj (fun e he => by omega)
      · have _b5 := True.intro
        refine j_aload_n X (q := 9) d_M_runs_8 rfl rfl ?_
        refine j_getR X (C := jR5) (T := jT5) (N := 18) (ci := 5) (j := 17) (q := 12) d_M_runs_9 ju5 rfl rfl rfl (by decide) wl500 rfl (hC _ _ (by decide)) rfl ?_
        refine j_bipush X (v := (nI 6)) (q := 14) d_M_runs_12 (by decide +kernel) rfl ?_
        refine j_iload_n X (q := 15) d_M_runs_14 rfl rfl ?_
        refine j_imul X (q := 16) d_M_runs_15 rfl ?_
        refine j_bipush X (v := (nI 6)) (q := 18) d_M_runs_16 (by decide +kernel) rfl ?_
        refine j_iadd X (q := 19) d_M_runs_18 rfl ?_
        refine j_iload_n X (q := 20) d_M_runs_19 rfl rfl ?_
        refine j_iadd X (q := 21) d_M_runs_20 rfl ?_
        refine j_aload_n X (q := 22) d_M_runs_21 rfl rfl ?_
        refine j_getR X (C := jR5) (T := jT5) (N := 18) (ci := 5) (j := 17) (q := 25) d_M_runs_22 ju5 rfl rfl rfl (by decide) wl500 rfl (hC _ _ (by decide)) rfl ?_
        refine j_bipush X (v := (nI 6)) (q := 27) d_M_runs_25 (by decide +kernel) rfl ?_
        refine j_iload_n X (q := 28) d_M_runs_27 rfl rfl ?_
        refine j_imul X (q := 29) d_M_runs_28 rfl ?_
        refine j_iload_n X (q := 30) d_M_runs_29 rfl rfl ?_
        refine j_iadd X (q := 31) d_M_runs_30 rfl ?_
        refine j_iald X (j := 6 * d + x) (q := 32) d_M_runs_31 rfl (by decide) (j_ix 6 _ _) (by omega) (hC _ _ (by decide)) rfl (show _ = σ 53 0 (6 * d + x) by rw [hj _ (by omega)]) ?_
        refine j_iast X (j := 6 * d + 6 + x) (q := 33) d_M_runs_32 rfl (by decide) (show nI 6 * nI d + nI 6 + nI x = nI (6 * d + 6 + x) by rw [pk_mul, nI_add, nI_add]) (by omega) (hC _ _ (by decide)) rfl ?_
        refine j_iinc X (q := 36) d_M_runs_33 rfl (j_inc1 _) rfl ?_
        refine j_goto X (tgt := 2) d_M_runs_36 (by decide) ?_
        refine ih (x + 1) _ (by omega) (by omega) (fun y hy => ?_) (fun g' hg => by rw [jxs_g _ _ _ _ _ hg, hf g' hg]) (fun j hj2 => by rw [jxs_at, if_neg (by omega)]; exact hj j hj2)
        rw [jxs_at]
        by_cases z : y = x
        · subst z; rw [if_pos ⟨rfl, rfl, rfl⟩]
        · rw [if_neg (by omega)]; exact hc y (by omega)
  refine j_iconst X (v := (nI 0)) (q := 1) d_M_runs_0 (by decide +kernel) rfl ?_
  refine j_istore_n X (j := 3) (q := 2) d_M_runs_1 rfl (Nat.le_of_ble_eq_true rfl) rfl ?_
  exact K 7 0 σ (by omega) (by omega) (fun x hx => by omega) (fun _ _ => rfl) (fun _ _ => rfl)
