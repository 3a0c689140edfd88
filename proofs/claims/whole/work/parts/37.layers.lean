/-! The search for cycles: layers, the shortest, the row. -/
theorem bI_meet {S U : Nat → Bool} : bI S &&& bI U = 0 ↔ jE8 (fun u => S u && U u) = false := by
  rw [bI_and, bI_zero, Bool.eq_false_iff, Ne, jE8_iff]
  constructor
  · rintro h ⟨u, h1, h2⟩
    rw [h u h1] at h2; cases h2
  · intro h i hi
    cases e : (S i && U i) with
    | false => rfl
    | true => exact absurd ⟨i, hi, e⟩ h
theorem bI_or0 {S : Nat → Bool} : bI S ||| nI 0 = bI S := by
  rw [show nI 0 = bI (fun _ => false) from bI_false.symm, bI_or]
  exact bI_ext (fun i _ => by simp)
theorem bI_n0 : nI 0 = bI (fun _ => false) := bI_false.symm
theorem jlt_succ {i t : Nat} (h : i ≠ t) : decide (i < t + 1) = decide (i < t) := by
  by_cases z : i < t
  · simp [z, Nat.lt_succ_of_lt z]
  · have : ¬ i < t + 1 := by omega
    simp [z, this]
set_option maxRecDepth 100000 in
set_option maxHeartbeats 4000000 in
theorem c_C_leadingInto {l : Launch} {Θ : jxT} (hI : jxI Θ) {g : Nat} {E : Nat → Nat → Bool} {σ : jxM} (hk : jxk g = .inr (.inl (0, 8))) (hp : Θ.2.2.2 g 0) (hE : jGb g E σ) (U : Nat → Bool) : jxMet l y_C_leadingInto b_C_leadingInto 4 (some FieldType.int) (jrm 2) Θ [.inr (g, 0), .inl (bI U)] σ (jan (bI (fun t => jE8 (fun u => E t u && U u))) σ) := by
  refine jxMet.of (own := "HistoryJudge$CycleSearch") hI (by decide) rfl (Nat.le_of_ble_eq_true rfl) (fun Γ X => ?_)
  show jxW Γ Θ (jan (bI (fun t => jE8 (fun u => E t u && U u))) σ) 0 [some (.inr (g, 0)), some (.inl (bI U)), none, none] [] σ
  have K : ∀ (N : Nat) (t : Nat), 9 - t < N → t ≤ 8 → jxW Γ Θ (jan (bI (fun t => jE8 (fun u => E t u && U u))) σ) 4 [some (.inr (g, 0)), some (.inl (bI U)), some (.inl (bI (fun i => decide (i < t) && jE8 (fun u => E i u && U u)))), some (.inl (nI (t)))] [] σ := by
    intro N
    induction N with
    | zero => intro t hn; exact absurd hn (Nat.not_lt_zero _)
    | succ N ih =>
      intro t hn ht
      refine j_iload_n X (q := 5) d_C_leadingInto_4 rfl rfl ?_
      refine j_bipush X (v := (nI 8)) (q := 7) d_C_leadingInto_5 (by decide +kernel) rfl ?_
      refine j_ncmp_ge X (tgt := 31) (q := 10) d_C_leadingInto_7 (by decide) rfl (by omega) (by omega) (fun h7 => ?_) (fun h7 => ?_)
      · have _b7 := True.intro
        refine j_iload_n X (q := 32) d_C_leadingInto_31 rfl rfl ?_
        refine j_iret X d_C_leadingInto_32 ?_
        exact ⟨by rw [bI_ext (S := fun i => decide (i < t) && jE8 (fun u => E i u && U u)) (T := fun t => jE8 (fun u => E t u && U u)) (fun i hi => by simp [show i < t by omega])], rfl⟩
      · have _b7 := True.intro
        refine j_aload_n X (q := 11) d_C_leadingInto_10 rfl rfl ?_
        refine j_iload_n X (q := 12) d_C_leadingInto_11 rfl rfl ?_
        refine j_iald X (q := 13) d_C_leadingInto_12 hk (by decide) rfl (by omega) hp rfl (hE t (by omega)) ?_
        refine j_iload_n X (q := 14) d_C_leadingInto_13 rfl rfl ?_
        refine j_iand X (q := 15) d_C_leadingInto_14 rfl ?_
        refine j_if_eq X (tgt := 25) (q := 18) d_C_leadingInto_15 (by decide) rfl (fun h15 => ?_) (fun h15 => ?_)
        · have _b15 := True.intro
          refine j_iinc X (q := 28) d_C_leadingInto_25 rfl (j_inc1 _) rfl ?_
          refine j_goto X (tgt := 4) d_C_leadingInto_28 (by decide) ?_
          have e : bI (fun i => decide (i < t) && jE8 (fun u => E i u && U u)) = bI (fun i => decide (i < t + 1) && jE8 (fun u => E i u && U u)) := bI_ext (fun i hi => by
            by_cases q : i = t
            · subst q; simp [bI_meet.mp h15]
            · rw [jlt_succ q])
          refine jxW.to (L' := [some (.inr (g, 0)), some (.inl (bI U)), some (.inl (bI (fun i => decide (i < t + 1) && jE8 (fun u => E i u && U u)))), some (.inl (nI (t + 1)))]) (by simp [jfg, e]) ?_
          exact ih (t + 1) (by omega) (by omega)
        · have _b15 := True.intro
          refine j_iload_n X (q := 19) d_C_leadingInto_18 rfl rfl ?_
          refine j_iload_n X (q := 20) d_C_leadingInto_19 rfl rfl ?_
          refine j_callSN X (n := 1) d_C_leadingInto_20 (c_J_only hI (t := t) (by omega) σ) wl208 nl4 wl36 wl207 (by decide +kernel) ⟨rfl, rfl⟩ (by decide) rfl rfl (Nat.le_of_ble_eq_true rfl) rfl (q := 23) rfl (fun r20 τ20 e20 => ?_)
          obtain ⟨rfl, rfl⟩ := e20
          refine j_ior X (q := 24) d_C_leadingInto_23 rfl ?_
          refine j_istore_n X (j := 2) (q := 25) d_C_leadingInto_24 rfl (Nat.le_of_ble_eq_true rfl) rfl ?_
          refine j_iinc X (q := 28) d_C_leadingInto_25 rfl (j_inc1 _) rfl ?_
          refine j_goto X (tgt := 4) d_C_leadingInto_28 (by decide) ?_
          have e : bI (fun i => decide (i < t) && jE8 (fun u => E i u && U u)) ||| bI (fun i => decide (i = t)) = bI (fun i => decide (i < t + 1) && jE8 (fun u => E i u && U u)) := by
            rw [bI_or]
            exact bI_ext (fun i hi => by
              by_cases q : i = t
              · subst q
                have z : jE8 (fun u => E i u && U u) = true := by
                  cases y : jE8 (fun u => E i u && U u) with
                  | true => rfl
                  | false => exact absurd (bI_meet.mpr y) h15
                simp [z]
              · rw [jlt_succ q]; simp [q])
          refine jxW.to (L' := [some (.inr (g, 0)), some (.inl (bI U)), some (.inl (bI (fun i => decide (i < t + 1) && jE8 (fun u => E i u && U u)))), some (.inl (nI (t + 1)))]) (by simp [jfg, e]) ?_
          exact ih (t + 1) (by omega) (by omega)
  refine j_iconst X (v := (nI 0)) (q := 1) d_C_leadingInto_0 (by decide +kernel) rfl ?_
  refine j_istore_n X (j := 2) (q := 2) d_C_leadingInto_1 rfl (Nat.le_of_ble_eq_true rfl) rfl ?_
  refine j_iconst X (v := (nI 0)) (q := 3) d_C_leadingInto_2 (by decide +kernel) rfl ?_
  refine j_istore_n X (j := 3) (q := 4) d_C_leadingInto_3 rfl (Nat.le_of_ble_eq_true rfl) rfl ?_
  refine jxW.to (L' := [some (.inr (g, 0)), some (.inl (bI U)), some (.inl (bI (fun i => decide (i < 0) && jE8 (fun u => E i u && U u)))), some (.inl (nI (0)))]) (by simp [jfg, bI_n0]) ?_
  exact K 10 0 (by omega) (by omega)
set_option maxRecDepth 100000 in
set_option maxHeartbeats 4000000 in
theorem c_C_shortest {l : Launch} {Θ : jxT} (hI : jxI Θ) {g : Nat} {w : Nat → Nat → Bool} {σ : jxM} (hk : jxk g = .inr (.inl (0, 9))) (hp : Θ.2.2.2 g 0) (hW : ∀ k, k ≤ 8 → σ g 0 k = bI (w k)) {t : Nat} (ht : t < 8) : jxMet l y_C_shortest b_C_shortest 3 (some FieldType.int) (jrm 3) Θ [.inr (g, 0), .inl (nI t)] σ (fun r σ' => ∃ s, s ≤ 8 ∧ r = some (.inl (nI s)) ∧ σ = σ' ∧ jsp (fun k => w k t) s) := by
  refine jxMet.of (own := "HistoryJudge$CycleSearch") hI (by decide) rfl (Nat.le_of_ble_eq_true rfl) (fun Γ X => ?_)
  show jxW Γ Θ (fun r σ' => ∃ s, s ≤ 8 ∧ r = some (.inl (nI s)) ∧ σ = σ' ∧ jsp (fun k => w k t) s) 0 [some (.inr (g, 0)), some (.inl (nI t)), none] [] σ
  have K : ∀ (N : Nat) (k : Nat), 9 - k < N → (2 ≤ k ∧ k ≤ 9) → (∀ j, 2 ≤ j → j < k → w j t = false) → jxW Γ Θ (fun r σ' => ∃ s, s ≤ 8 ∧ r = some (.inl (nI s)) ∧ σ = σ' ∧ jsp (fun k => w k t) s) 2 [some (.inr (g, 0)), some (.inl (nI t)), some (.inl (nI k))] [] σ := by
    intro N
    induction N with
    | zero => intro k hn; exact absurd hn (Nat.not_lt_zero _)
    | succ N ih =>
      intro k hn hk2 hno
      refine j_iload_n X (q := 3) d_C_shortest_2 rfl rfl ?_
      refine j_bipush X (v := (nI 8)) (q := 5) d_C_shortest_3 (by decide +kernel) rfl ?_
      refine j_ncmp_gt X (tgt := 26) (q := 8) d_C_shortest_5 (by decide) rfl (by omega) (by omega) (fun h5 => ?_) (fun h5 => ?_)
      · have _b5 := True.intro
        refine j_iconst X (v := (nI 0)) (q := 27) d_C_shortest_26 (by decide +kernel) rfl ?_
        refine j_iret X d_C_shortest_27 ?_
        exact ⟨0, by omega, rfl, rfl, Or.inl ⟨rfl, fun j h1 h2 => hno j h1 (by omega)⟩⟩
      · have _b5 := True.intro
        refine j_aload_n X (q := 9) d_C_shortest_8 rfl rfl ?_
        refine j_iload_n X (q := 10) d_C_shortest_9 rfl rfl ?_
        refine j_iald X (q := 11) d_C_shortest_10 hk (by decide) rfl (by omega) hp rfl (hW k (by omega)) ?_
        refine j_iload_n X (q := 12) d_C_shortest_11 rfl rfl ?_
        refine j_callSN X (n := 2) d_C_shortest_12 (c_J_has hI (w k) ht σ) wl225 nl5 wl36 wl224 (by decide +kernel) ⟨rfl, rfl⟩ (by decide) rfl rfl (Nat.le_of_ble_eq_true rfl) rfl (q := 15) rfl (fun r12 τ12 e12 => ?_)
        obtain ⟨rfl, rfl⟩ := e12
        refine j_bif_eq X (tgt := 20) (q := 18) d_C_shortest_15 (by decide) rfl (fun h15 => ?_) (fun h15 => ?_)
        · have _b15 := True.intro
          refine j_iinc X (q := 23) d_C_shortest_20 rfl (j_inc1 _) rfl ?_
          refine j_goto X (tgt := 2) d_C_shortest_23 (by decide) ?_
          exact ih (k + 1) (by omega) (by omega) (fun j h1 h2 => by
            by_cases q : j = k
            · rw [q]; exact h15
            · exact hno j h1 (by omega))
        · have _b15 := True.intro
          refine j_iload_n X (q := 19) d_C_shortest_18 rfl rfl ?_
          refine j_iret X d_C_shortest_19 ?_
          exact ⟨k, by omega, rfl, rfl, Or.inr ⟨by omega, by omega, h15, hno⟩⟩
  refine j_iconst X (v := (nI 2)) (q := 1) d_C_shortest_0 (by decide +kernel) rfl ?_
  refine j_istore_n X (j := 2) (q := 2) d_C_shortest_1 rfl (Nat.le_of_ble_eq_true rfl) rfl ?_
  exact K 9 2 (by omega) (by omega) (fun j h1 h2 => by omega)
/-- the plain edges of kind k -/
def jpl (k : Nat) (A B D : Nat → Nat → Bool) (a b : Nat) : Bool := (A a b || (decide (1 ≤ k) && B a b)) || (decide (3 ≤ k) && D a b)
def jse (k : Nat) (A B D : Nat → Nat → Bool) (t : Nat) (σ1 : jxM) : Prop := ∀ a, a < t → σ1 25 0 a = bI (jpl k A B D a) ∧ σ1 26 0 a = bI (D a)
theorem jse_step {k t : Nat} {A B D : Nat → Nat → Bool} {σ1 : jxM} {v : Int32} (h : jse k A B D t σ1) (hv : v = bI (jpl k A B D t)) : jse k A B D (t + 1) (jxs (jxs σ1 25 0 t v) 26 0 t (bI (D t))) := by
  intro a ha
  by_cases e : a = t
  · subst e; simp [jxs_at, hv]
  · simp [jxs_at, e]; exact h a (by omega)
set_option maxRecDepth 100000 in
set_option maxHeartbeats 4000000 in
theorem c_C_sortEdges {l : Launch} {Θ : jxT} (hI : jxI Θ) (hC : ∀ g r, r < jrwJ g → Θ.2.2.2 g r) {A B D : Nat → Nat → Bool} {σ : jxM} (hA : jGb 21 A σ) (hB : jGb 22 B σ) (hD : jGb 23 D σ) {k : Nat} (hk4 : k < 4) : jxMet l y_C_sortEdges b_C_sortEdges 6 none (jrm 1) Θ [.inr (24, 0), .inr (20, 0), .inl (nI k)] σ (fun r σ' => r = none ∧ jGb 25 (jpl k A B D) σ' ∧ jGb 26 D σ' ∧ ∀ g', g' ≠ 25 → g' ≠ 26 → σ' g' = σ g') := by
  refine jxMet.of (own := "HistoryJudge$CycleSearch") hI (by decide) rfl (Nat.le_of_ble_eq_true rfl) (fun Γ X => ?_)
  show jxW Γ Θ (fun r σ' => r = none ∧ jGb 25 (jpl k A B D) σ' ∧ jGb 26 D σ' ∧ ∀ g', g' ≠ 25 → g' ≠ 26 → σ' g' = σ g') 0 [some (.inr (24, 0)), some (.inr (20, 0)), some (.inl (nI k)), none, none, none] [] σ
  have K : ∀ (N : Nat) (t : Nat) (σ1 : jxM), 8 - t < N → t ≤ 8 → jse k A B D t σ1 → (∀ g', g' ≠ 25 → g' ≠ 26 → σ1 g' = σ g') → jxW Γ Θ (fun r σ' => r = none ∧ jGb 25 (jpl k A B D) σ' ∧ jGb 26 D σ' ∧ ∀ g', g' ≠ 25 → g' ≠ 26 → σ' g' = σ g') 2 [some (.inr (24, 0)), some (.inr (20, 0)), some (.inl (nI k)), some (.inl (nI t)), none, none] [] σ1 := by
    intro N
    induction N with
    | zero => intro t σ1 hn; exact absurd hn (Nat.not_lt_zero _)
    | succ N ih =>
      intro t σ1 hn ht hj hf
      refine j_iload_n X (q := 3) d_C_sortEdges_2 rfl rfl ?_
      refine j_bipush X (v := (nI 8)) (q := 5) d_C_sortEdges_3 (by decide +kernel) rfl ?_
      refine j_ncmp_ge X (tgt := 78) (q := 8) d_C_sortEdges_5 (by decide) rfl (by omega) (by omega) (fun h5 => ?_) (fun h5 => ?_)
      · have _b5 := True.intro
        refine j_vret X d_C_sortEdges_78 ?_
        have e : t = 8 := by omega
        subst e
        exact ⟨rfl, fun a ha => (hj a ha).1, fun a ha => (hj a ha).2, hf⟩
      · have _b5 := True.intro
        refine j_iload_n X (q := 9) d_C_sortEdges_8 rfl rfl ?_
        refine j_iconst X (v := (nI 1)) (q := 10) d_C_sortEdges_9 (by decide +kernel) rfl ?_
        refine j_ncmp_lt X (tgt := 22) (q := 13) d_C_sortEdges_10 (by decide) rfl (by omega) (by omega) (fun h10 => ?_) (fun h10 => ?_)
        · have _b10 := True.intro
          refine j_iconst X (v := (nI 0)) (q := 23) d_C_sortEdges_22 (by decide +kernel) rfl ?_
          refine j_istore X (q := 25) d_C_sortEdges_23 (Nat.le_of_ble_eq_true rfl) rfl ?_
          refine j_iload_n X (q := 26) d_C_sortEdges_25 rfl rfl ?_
          refine j_iconst X (v := (nI 3)) (q := 27) d_C_sortEdges_26 (by decide +kernel) rfl ?_
          refine j_ncmp_lt X (tgt := 39) (q := 30) d_C_sortEdges_27 (by decide) rfl (by omega) (by omega) (fun h27 => ?_) (fun h27 => ?_)
          · have _b27 := True.intro
            refine j_iconst X (v := (nI 0)) (q := 40) d_C_sortEdges_39 (by decide +kernel) rfl ?_
            refine j_istore X (q := 42) d_C_sortEdges_40 (Nat.le_of_ble_eq_true rfl) rfl ?_
            refine j_aload_n X (q := 43) d_C_sortEdges_42 rfl rfl ?_
            refine j_getR X (C := jR0) (T := jT0) (N := 5) (ci := 0) (j := 0) (q := 46) d_C_sortEdges_43 ju0 rfl rfl rfl (by decide) wl138 rfl (hC _ _ (by decide)) rfl ?_
            refine j_iload_n X (q := 47) d_C_sortEdges_46 rfl rfl ?_
            refine j_aload_n X (q := 48) d_C_sortEdges_47 rfl rfl ?_
            refine j_getR X (C := jR1) (T := jT1) (N := 3) (ci := 1) (j := 0) (q := 51) d_C_sortEdges_48 ju1 rfl rfl rfl (by decide) wl122 rfl (hC _ _ (by decide)) rfl ?_
            refine j_iload_n X (q := 52) d_C_sortEdges_51 rfl rfl ?_
            refine j_iald X (q := 53) d_C_sortEdges_52 rfl (by decide) rfl (by omega) (hC _ _ (by decide)) rfl (show _ = bI (A t) by (rw [hf 21 (by decide) (by decide)]; exact hA t (by omega))) ?_
            refine j_iload X (q := 55) d_C_sortEdges_53 rfl rfl ?_
            refine j_ior X (q := 56) d_C_sortEdges_55 rfl ?_
            refine j_iload X (q := 58) d_C_sortEdges_56 rfl rfl ?_
            refine j_ior X (q := 59) d_C_sortEdges_58 rfl ?_
            refine j_iast X (q := 60) d_C_sortEdges_59 rfl (by decide) rfl (by omega) (hC _ _ (by decide)) rfl ?_
            refine j_aload_n X (q := 61) d_C_sortEdges_60 rfl rfl ?_
            refine j_getR X (C := jR0) (T := jT0) (N := 5) (ci := 0) (j := 1) (q := 64) d_C_sortEdges_61 ju0 rfl rfl rfl (by decide) wl139 rfl (hC _ _ (by decide)) rfl ?_
            refine j_iload_n X (q := 65) d_C_sortEdges_64 rfl rfl ?_
            refine j_aload_n X (q := 66) d_C_sortEdges_65 rfl rfl ?_
            refine j_getR X (C := jR1) (T := jT1) (N := 3) (ci := 1) (j := 2) (q := 69) d_C_sortEdges_66 ju1 rfl rfl rfl (by decide) wl128 rfl (hC _ _ (by decide)) rfl ?_
            refine j_iload_n X (q := 70) d_C_sortEdges_69 rfl rfl ?_
            refine j_iald X (q := 71) d_C_sortEdges_70 rfl (by decide) rfl (by omega) (hC _ _ (by decide)) rfl (show _ = bI (D t) by (rw [jxs_g _ _ _ _ _ (by decide), hf 23 (by decide) (by decide)]; exact hD t (by omega))) ?_
            refine j_iast X (q := 72) d_C_sortEdges_71 rfl (by decide) rfl (by omega) (hC _ _ (by decide)) rfl ?_
            refine j_iinc X (q := 75) d_C_sortEdges_72 rfl (j_inc1 _) rfl ?_
            refine j_goto X (tgt := 2) d_C_sortEdges_75 (by decide) ?_
            refine jxW.to (L' := [some (.inr (24, 0)), some (.inr (20, 0)), some (.inl (nI k)), some (.inl (nI (t + 1))), none, none]) (by simp [jfg]) ?_
            exact ih (t + 1) _ (by omega) (by omega) (jse_step hj (by rw [bI_or0, bI_or0]; refine bI_ext (fun i _ => ?_); simp [jpl, show ¬ 1 ≤ k by omega, show ¬ 3 ≤ k by omega])) (fun g' h1 h2 => by rw [jxs_g _ _ _ _ _ h2, jxs_g _ _ _ _ _ h1, hf g' h1 h2])
          · have _b27 := True.intro
            refine j_aload_n X (q := 31) d_C_sortEdges_30 rfl rfl ?_
            refine j_getR X (C := jR1) (T := jT1) (N := 3) (ci := 1) (j := 2) (q := 34) d_C_sortEdges_31 ju1 rfl rfl rfl (by decide) wl128 rfl (hC _ _ (by decide)) rfl ?_
            refine j_iload_n X (q := 35) d_C_sortEdges_34 rfl rfl ?_
            refine j_iald X (q := 36) d_C_sortEdges_35 rfl (by decide) rfl (by omega) (hC _ _ (by decide)) rfl (show _ = bI (D t) by (rw [hf 23 (by decide) (by decide)]; exact hD t (by omega))) ?_
            refine j_goto X (tgt := 40) d_C_sortEdges_36 (by decide) ?_
            refine j_istore X (q := 42) d_C_sortEdges_40 (Nat.le_of_ble_eq_true rfl) rfl ?_
            refine j_aload_n X (q := 43) d_C_sortEdges_42 rfl rfl ?_
            refine j_getR X (C := jR0) (T := jT0) (N := 5) (ci := 0) (j := 0) (q := 46) d_C_sortEdges_43 ju0 rfl rfl rfl (by decide) wl138 rfl (hC _ _ (by decide)) rfl ?_
            refine j_iload_n X (q := 47) d_C_sortEdges_46 rfl rfl ?_
            refine j_aload_n X (q := 48) d_C_sortEdges_47 rfl rfl ?_
            refine j_getR X (C := jR1) (T := jT1) (N := 3) (ci := 1) (j := 0) (q := 51) d_C_sortEdges_48 ju1 rfl rfl rfl (by decide) wl122 rfl (hC _ _ (by decide)) rfl ?_
            refine j_iload_n X (q := 52) d_C_sortEdges_51 rfl rfl ?_
            refine j_iald X (q := 53) d_C_sortEdges_52 rfl (by decide) rfl (by omega) (hC _ _ (by decide)) rfl (show _ = bI (A t) by (rw [hf 21 (by decide) (by decide)]; exact hA t (by omega))) ?_
            refine j_iload X (q := 55) d_C_sortEdges_53 rfl rfl ?_
            refine j_ior X (q := 56) d_C_sortEdges_55 rfl ?_
            refine j_iload X (q := 58) d_C_sortEdges_56 rfl rfl ?_
            refine j_ior X (q := 59) d_C_sortEdges_58 rfl ?_
            refine j_iast X (q := 60) d_C_sortEdges_59 rfl (by decide) rfl (by omega) (hC _ _ (by decide)) rfl ?_
            refine j_aload_n X (q := 61) d_C_sortEdges_60 rfl rfl ?_
            refine j_getR X (C := jR0) (T := jT0) (N := 5) (ci := 0) (j := 1) (q := 64) d_C_sortEdges_61 ju0 rfl rfl rfl (by decide) wl139 rfl (hC _ _ (by decide)) rfl ?_
            refine j_iload_n X (q := 65) d_C_sortEdges_64 rfl rfl ?_
            refine j_aload_n X (q := 66) d_C_sortEdges_65 rfl rfl ?_
            refine j_getR X (C := jR1) (T := jT1) (N := 3) (ci := 1) (j := 2) (q := 69) d_C_sortEdges_66 ju1 rfl rfl rfl (by decide) wl128 rfl (hC _ _ (by decide)) rfl ?_
            refine j_iload_n X (q := 70) d_C_sortEdges_69 rfl rfl ?_
            refine j_iald X (q := 71) d_C_sortEdges_70 rfl (by decide) rfl (by omega) (hC _ _ (by decide)) rfl (show _ = bI (D t) by (rw [jxs_g _ _ _ _ _ (by decide), hf 23 (by decide) (by decide)]; exact hD t (by omega))) ?_
            refine j_iast X (q := 72) d_C_sortEdges_71 rfl (by decide) rfl (by omega) (hC _ _ (by decide)) rfl ?_
            refine j_iinc X (q := 75) d_C_sortEdges_72 rfl (j_inc1 _) rfl ?_
            refine j_goto X (tgt := 2) d_C_sortEdges_75 (by decide) ?_
            refine jxW.to (L' := [some (.inr (24, 0)), some (.inr (20, 0)), some (.inl (nI k)), some (.inl (nI (t + 1))), none, none]) (by simp [jfg]) ?_
            exact ih (t + 1) _ (by omega) (by omega) (jse_step hj (by omega)) (fun g' h1 h2 => by rw [jxs_g _ _ _ _ _ h2, jxs_g _ _ _ _ _ h1, hf g' h1 h2])
        · have _b10 := True.intro
          refine j_aload_n X (q := 14) d_C_sortEdges_13 rfl rfl ?_
          refine j_getR X (C := jR1) (T := jT1) (N := 3) (ci := 1) (j := 1) (q := 17) d_C_sortEdges_14 ju1 rfl rfl rfl (by decide) wl125 rfl (hC _ _ (by decide)) rfl ?_
          refine j_iload_n X (q := 18) d_C_sortEdges_17 rfl rfl ?_
          refine j_iald X (q := 19) d_C_sortEdges_18 rfl (by decide) rfl (by omega) (hC _ _ (by decide)) rfl (show _ = bI (B t) by (rw [hf 22 (by decide) (by decide)]; exact hB t (by omega))) ?_
          refine j_goto X (tgt := 23) d_C_sortEdges_19 (by decide) ?_
          refine j_istore X (q := 25) d_C_sortEdges_23 (Nat.le_of_ble_eq_true rfl) rfl ?_
          refine j_iload_n X (q := 26) d_C_sortEdges_25 rfl rfl ?_
          refine j_iconst X (v := (nI 3)) (q := 27) d_C_sortEdges_26 (by decide +kernel) rfl ?_
          refine j_ncmp_lt X (tgt := 39) (q := 30) d_C_sortEdges_27 (by decide) rfl (by omega) (by omega) (fun h27 => ?_) (fun h27 => ?_)
          · have _b27 := True.intro
            refine j_iconst X (v := (nI 0)) (q := 40) d_C_sortEdges_39 (by decide +kernel) rfl ?_
            refine j_istore X (q := 42) d_C_sortEdges_40 (Nat.le_of_ble_eq_true rfl) rfl ?_
            refine j_aload_n X (q := 43) d_C_sortEdges_42 rfl rfl ?_
            refine j_getR X (C := jR0) (T := jT0) (N := 5) (ci := 0) (j := 0) (q := 46) d_C_sortEdges_43 ju0 rfl rfl rfl (by decide) wl138 rfl (hC _ _ (by decide)) rfl ?_
            refine j_iload_n X (q := 47) d_C_sortEdges_46 rfl rfl ?_
            refine j_aload_n X (q := 48) d_C_sortEdges_47 rfl rfl ?_
            refine j_getR X (C := jR1) (T := jT1) (N := 3) (ci := 1) (j := 0) (q := 51) d_C_sortEdges_48 ju1 rfl rfl rfl (by decide) wl122 rfl (hC _ _ (by decide)) rfl ?_
            refine j_iload_n X (q := 52) d_C_sortEdges_51 rfl rfl ?_
            refine j_iald X (q := 53) d_C_sortEdges_52 rfl (by decide) rfl (by omega) (hC _ _ (by decide)) rfl (show _ = bI (A t) by (rw [hf 21 (by decide) (by decide)]; exact hA t (by omega))) ?_
            refine j_iload X (q := 55) d_C_sortEdges_53 rfl rfl ?_
            refine j_ior X (q := 56) d_C_sortEdges_55 rfl ?_
            refine j_iload X (q := 58) d_C_sortEdges_56 rfl rfl ?_
            refine j_ior X (q := 59) d_C_sortEdges_58 rfl ?_
            refine j_iast X (q := 60) d_C_sortEdges_59 rfl (by decide) rfl (by omega) (hC _ _ (by decide)) rfl ?_
            refine j_aload_n X (q := 61) d_C_sortEdges_60 rfl rfl ?_
            refine j_getR X (C := jR0) (T := jT0) (N := 5) (ci := 0) (j := 1) (q := 64) d_C_sortEdges_61 ju0 rfl rfl rfl (by decide) wl139 rfl (hC _ _ (by decide)) rfl ?_
            refine j_iload_n X (q := 65) d_C_sortEdges_64 rfl rfl ?_
            refine j_aload_n X (q := 66) d_C_sortEdges_65 rfl rfl ?_
            refine j_getR X (C := jR1) (T := jT1) (N := 3) (ci := 1) (j := 2) (q := 69) d_C_sortEdges_66 ju1 rfl rfl rfl (by decide) wl128 rfl (hC _ _ (by decide)) rfl ?_
            refine j_iload_n X (q := 70) d_C_sortEdges_69 rfl rfl ?_
            refine j_iald X (q := 71) d_C_sortEdges_70 rfl (by decide) rfl (by omega) (hC _ _ (by decide)) rfl (show _ = bI (D t) by (rw [jxs_g _ _ _ _ _ (by decide), hf 23 (by decide) (by decide)]; exact hD t (by omega))) ?_
            refine j_iast X (q := 72) d_C_sortEdges_71 rfl (by decide) rfl (by omega) (hC _ _ (by decide)) rfl ?_
            refine j_iinc X (q := 75) d_C_sortEdges_72 rfl (j_inc1 _) rfl ?_
            refine j_goto X (tgt := 2) d_C_sortEdges_75 (by decide) ?_
            refine jxW.to (L' := [some (.inr (24, 0)), some (.inr (20, 0)), some (.inl (nI k)), some (.inl (nI (t + 1))), none, none]) (by simp [jfg]) ?_
            exact ih (t + 1) _ (by omega) (by omega) (jse_step hj (by rw [bI_or, bI_or0]; refine bI_ext (fun i _ => ?_); simp [jpl, show 1 ≤ k by omega, show ¬ 3 ≤ k by omega])) (fun g' h1 h2 => by rw [jxs_g _ _ _ _ _ h2, jxs_g _ _ _ _ _ h1, hf g' h1 h2])
          · have _b27 := True.intro
            refine j_aload_n X (q := 31) d_C_sortEdges_30 rfl rfl ?_
            refine j_getR X (C := jR1) (T := jT1) (N := 3) (ci := 1) (j := 2) (q := 34) d_C_sortEdges_31 ju1 rfl rfl rfl (by decide) wl128 rfl (hC _ _ (by decide)) rfl ?_
            refine j_iload_n X (q := 35) d_C_sortEdges_34 rfl rfl ?_
            refine j_iald X (q := 36) d_C_sortEdges_35 rfl (by decide) rfl (by omega) (hC _ _ (by decide)) rfl (show _ = bI (D t) by (rw [hf 23 (by decide) (by decide)]; exact hD t (by omega))) ?_
            refine j_goto X (tgt := 40) d_C_sortEdges_36 (by decide) ?_
            refine j_istore X (q := 42) d_C_sortEdges_40 (Nat.le_of_ble_eq_true rfl) rfl ?_
            refine j_aload_n X (q := 43) d_C_sortEdges_42 rfl rfl ?_
            refine j_getR X (C := jR0) (T := jT0) (N := 5) (ci := 0) (j := 0) (q := 46) d_C_sortEdges_43 ju0 rfl rfl rfl (by decide) wl138 rfl (hC _ _ (by decide)) rfl ?_
            refine j_iload_n X (q := 47) d_C_sortEdges_46 rfl rfl ?_
            refine j_aload_n X (q := 48) d_C_sortEdges_47 rfl rfl ?_
            refine j_getR X (C := jR1) (T := jT1) (N := 3) (ci := 1) (j := 0) (q := 51) d_C_sortEdges_48 ju1 rfl rfl rfl (by decide) wl122 rfl (hC _ _ (by decide)) rfl ?_
            refine j_iload_n X (q := 52) d_C_sortEdges_51 rfl rfl ?_
            refine j_iald X (q := 53) d_C_sortEdges_52 rfl (by decide) rfl (by omega) (hC _ _ (by decide)) rfl (show _ = bI (A t) by (rw [hf 21 (by decide) (by decide)]; exact hA t (by omega))) ?_
            refine j_iload X (q := 55) d_C_sortEdges_53 rfl rfl ?_
            refine j_ior X (q := 56) d_C_sortEdges_55 rfl ?_
            refine j_iload X (q := 58) d_C_sortEdges_56 rfl rfl ?_
            refine j_ior X (q := 59) d_C_sortEdges_58 rfl ?_
            refine j_iast X (q := 60) d_C_sortEdges_59 rfl (by decide) rfl (by omega) (hC _ _ (by decide)) rfl ?_
            refine j_aload_n X (q := 61) d_C_sortEdges_60 rfl rfl ?_
            refine j_getR X (C := jR0) (T := jT0) (N := 5) (ci := 0) (j := 1) (q := 64) d_C_sortEdges_61 ju0 rfl rfl rfl (by decide) wl139 rfl (hC _ _ (by decide)) rfl ?_
            refine j_iload_n X (q := 65) d_C_sortEdges_64 rfl rfl ?_
            refine j_aload_n X (q := 66) d_C_sortEdges_65 rfl rfl ?_
            refine j_getR X (C := jR1) (T := jT1) (N := 3) (ci := 1) (j := 2) (q := 69) d_C_sortEdges_66 ju1 rfl rfl rfl (by decide) wl128 rfl (hC _ _ (by decide)) rfl ?_
            refine j_iload_n X (q := 70) d_C_sortEdges_69 rfl rfl ?_
            refine j_iald X (q := 71) d_C_sortEdges_70 rfl (by decide) rfl (by omega) (hC _ _ (by decide)) rfl (show _ = bI (D t) by (rw [jxs_g _ _ _ _ _ (by decide), hf 23 (by decide) (by decide)]; exact hD t (by omega))) ?_
            refine j_iast X (q := 72) d_C_sortEdges_71 rfl (by decide) rfl (by omega) (hC _ _ (by decide)) rfl ?_
            refine j_iinc X (q := 75) d_C_sortEdges_72 rfl (j_inc1 _) rfl ?_
            refine j_goto X (tgt := 2) d_C_sortEdges_75 (by decide) ?_
            refine jxW.to (L' := [some (.inr (24, 0)), some (.inr (20, 0)), some (.inl (nI k)), some (.inl (nI (t + 1))), none, none]) (by simp [jfg]) ?_
            exact ih (t + 1) _ (by omega) (by omega) (jse_step hj (by rw [bI_or, bI_or]; refine bI_ext (fun i _ => ?_); simp [jpl, show 1 ≤ k by omega, show 3 ≤ k by omega])) (fun g' h1 h2 => by rw [jxs_g _ _ _ _ _ h2, jxs_g _ _ _ _ _ h1, hf g' h1 h2])
  refine j_iconst X (v := (nI 0)) (q := 1) d_C_sortEdges_0 (by decide +kernel) rfl ?_
  refine j_istore_n X (j := 3) (q := 2) d_C_sortEdges_1 rfl (Nat.le_of_ble_eq_true rfl) rfl ?_
  refine jxW.to (L' := [some (.inr (24, 0)), some (.inr (20, 0)), some (.inl (nI k)), some (.inl (nI 0)), none, none]) (by simp [jfg]) ?_
  exact K 9 0 σ (by omega) (by omega) (fun a ha => by omega) (fun _ _ _ => rfl)
set_option maxRecDepth 100000 in
set_option maxHeartbeats 4000000 in
theorem c_C_measure {l : Launch} {Θ : jxT} (hI : jxI Θ) (hC : ∀ g r, r < jrwJ g → Θ.2.2.2 g r) {P M : Nat → Nat → Bool} {σ : jxM} (hP : jGb 25 P σ) (hM : jGb 26 M σ) {t : Nat} (ht : t < 8) : jxMet l y_C_measure b_C_measure 3 none (jrm 3) Θ [.inr (24, 0), .inl (nI t)] σ (fun r σ' => r = none ∧ (∀ i, i ≤ 8 → σ' 27 0 i = bI (jpd P t i) ∧ σ' 28 0 i = bI (jow P M t i)) ∧ ∀ g', g' ≠ 27 → g' ≠ 28 → σ' g' = σ g') := by
  refine jxMet.of (own := "HistoryJudge$CycleSearch") hI (by decide) rfl (Nat.le_of_ble_eq_true rfl) (fun Γ X => ?_)
  show jxW Γ Θ (fun r σ' => r = none ∧ (∀ i, i ≤ 8 → σ' 27 0 i = bI (jpd P t i) ∧ σ' 28 0 i = bI (jow P M t i)) ∧ ∀ g', g' ≠ 27 → g' ≠ 28 → σ' g' = σ g') 0 [some (.inr (24, 0)), some (.inl (nI t)), none] [] σ
  have K : ∀ (N : Nat) (j : Nat) (σ1 : jxM), 8 - j < N → j ≤ 8 → (∀ i, i ≤ j → σ1 27 0 i = bI (jpd P t i) ∧ σ1 28 0 i = bI (jow P M t i)) → (∀ g', g' ≠ 27 → g' ≠ 28 → σ1 g' = σ g') → jxW Γ Θ (fun r σ' => r = none ∧ (∀ i, i ≤ 8 → σ' 27 0 i = bI (jpd P t i) ∧ σ' 28 0 i = bI (jow P M t i)) ∧ ∀ g', g' ≠ 27 → g' ≠ 28 → σ' g' = σ g') 19 [some (.inr (24, 0)), some (.inl (nI t)), some (.inl (nI (j + 1)))] [] σ1 := by
    intro N
    induction N with
    | zero => intro j σ1 hn; exact absurd hn (Nat.not_lt_zero _)
    | succ N ih =>
      intro j σ1 hn hj hv hf
      refine j_iload_n X (q := 20) d_C_measure_19 rfl rfl ?_
      refine j_bipush X (v := (nI 8)) (q := 22) d_C_measure_20 (by decide +kernel) rfl ?_
      refine j_ncmp_gt X (tgt := 89) (q := 25) d_C_measure_22 (by decide) rfl (by omega) (by omega) (fun h22 => ?_) (fun h22 => ?_)
      · have _b22 := True.intro
        refine j_vret X d_C_measure_89 ?_
        have e : j = 8 := by omega
        subst e
        exact ⟨rfl, hv, hf⟩
      · have _b22 := True.intro
        refine j_aload_n X (q := 26) d_C_measure_25 rfl rfl ?_
        refine j_getR X (C := jR0) (T := jT0) (N := 5) (ci := 0) (j := 2) (q := 29) d_C_measure_26 ju0 rfl rfl rfl (by decide) wl140 rfl (hC _ _ (by decide)) rfl ?_
        refine j_iload_n X (q := 30) d_C_measure_29 rfl rfl ?_
        refine j_aload_n X (q := 31) d_C_measure_30 rfl rfl ?_
        refine j_getR X (C := jR0) (T := jT0) (N := 5) (ci := 0) (j := 0) (q := 34) d_C_measure_31 ju0 rfl rfl rfl (by decide) wl138 rfl (hC _ _ (by decide)) rfl ?_
        refine j_aload_n X (q := 35) d_C_measure_34 rfl rfl ?_
        refine j_getR X (C := jR0) (T := jT0) (N := 5) (ci := 0) (j := 2) (q := 38) d_C_measure_35 ju0 rfl rfl rfl (by decide) wl140 rfl (hC _ _ (by decide)) rfl ?_
        refine j_iload_n X (q := 39) d_C_measure_38 rfl rfl ?_
        refine j_iconst X (v := (nI 1)) (q := 40) d_C_measure_39 (by decide +kernel) rfl ?_
        refine j_isub X (q := 41) d_C_measure_40 rfl ?_
        refine j_iald X (j := j) (q := 42) d_C_measure_41 rfl (by decide) (nI_pred j) (by omega) (hC _ _ (by decide)) rfl (hv j (Nat.le_refl _)).1 ?_
        refine j_callS X (n := 2) d_C_measure_42 (c_C_leadingInto hI (g := 25) rfl (hC _ _ (by decide)) (jGb_keep hP (hf 25 (by decide) (by decide))) (jpd P t j)) wl241 wl242 wl40 wl243 (by decide +kernel) ⟨rfl, rfl⟩ (by decide) rfl rfl (Nat.le_of_ble_eq_true rfl) rfl (q := 45) rfl (fun r42 τ42 e42 => ?_)
        obtain ⟨rfl, rfl⟩ := e42
        refine j_iast X (q := 46) d_C_measure_45 rfl (by decide) rfl (by omega) (hC _ _ (by decide)) rfl ?_
        refine j_aload_n X (q := 47) d_C_measure_46 rfl rfl ?_
        refine j_getR X (C := jR0) (T := jT0) (N := 5) (ci := 0) (j := 3) (q := 50) d_C_measure_47 ju0 rfl rfl rfl (by decide) wl141 rfl (hC _ _ (by decide)) rfl ?_
        refine j_iload_n X (q := 51) d_C_measure_50 rfl rfl ?_
        refine j_aload_n X (q := 52) d_C_measure_51 rfl rfl ?_
        refine j_getR X (C := jR0) (T := jT0) (N := 5) (ci := 0) (j := 0) (q := 55) d_C_measure_52 ju0 rfl rfl rfl (by decide) wl138 rfl (hC _ _ (by decide)) rfl ?_
        refine j_aload_n X (q := 56) d_C_measure_55 rfl rfl ?_
        refine j_getR X (C := jR0) (T := jT0) (N := 5) (ci := 0) (j := 3) (q := 59) d_C_measure_56 ju0 rfl rfl rfl (by decide) wl141 rfl (hC _ _ (by decide)) rfl ?_
        refine j_iload_n X (q := 60) d_C_measure_59 rfl rfl ?_
        refine j_iconst X (v := (nI 1)) (q := 61) d_C_measure_60 (by decide +kernel) rfl ?_
        refine j_isub X (q := 62) d_C_measure_61 rfl ?_
        refine j_iald X (j := j) (q := 63) d_C_measure_62 rfl (by decide) (nI_pred j) (by omega) (hC _ _ (by decide)) rfl (show _ = bI (jow P M t j) by (rw [jxs_g _ _ _ _ _ (by decide)]; exact (hv j (Nat.le_refl _)).2)) ?_
        refine j_callS X (n := 2) d_C_measure_63 (c_C_leadingInto hI (g := 25) rfl (hC _ _ (by decide)) (jGb_keep (jGb_keep hP (hf 25 (by decide) (by decide))) (jxs_g _ _ _ _ _ (by decide))) (jow P M t j)) wl241 wl242 wl40 wl243 (by decide +kernel) ⟨rfl, rfl⟩ (by decide) rfl rfl (Nat.le_of_ble_eq_true rfl) rfl (q := 66) rfl (fun r63 τ63 e63 => ?_)
        obtain ⟨rfl, rfl⟩ := e63
        refine j_aload_n X (q := 67) d_C_measure_66 rfl rfl ?_
        refine j_getR X (C := jR0) (T := jT0) (N := 5) (ci := 0) (j := 1) (q := 70) d_C_measure_67 ju0 rfl rfl rfl (by decide) wl139 rfl (hC _ _ (by decide)) rfl ?_
        refine j_aload_n X (q := 71) d_C_measure_70 rfl rfl ?_
        refine j_getR X (C := jR0) (T := jT0) (N := 5) (ci := 0) (j := 2) (q := 74) d_C_measure_71 ju0 rfl rfl rfl (by decide) wl140 rfl (hC _ _ (by decide)) rfl ?_
        refine j_iload_n X (q := 75) d_C_measure_74 rfl rfl ?_
        refine j_iconst X (v := (nI 1)) (q := 76) d_C_measure_75 (by decide +kernel) rfl ?_
        refine j_isub X (q := 77) d_C_measure_76 rfl ?_
        refine j_iald X (j := j) (q := 78) d_C_measure_77 rfl (by decide) (nI_pred j) (by omega) (hC _ _ (by decide)) rfl (show _ = bI (jpd P t j) by (rw [jxs_at, if_neg (by omega)]; exact (hv j (Nat.le_refl _)).1)) ?_
        refine j_callS X (n := 2) d_C_measure_78 (c_C_leadingInto hI (g := 26) rfl (hC _ _ (by decide)) (jGb_keep (jGb_keep hM (hf 26 (by decide) (by decide))) (jxs_g _ _ _ _ _ (by decide))) (jpd P t j)) wl241 wl242 wl40 wl243 (by decide +kernel) ⟨rfl, rfl⟩ (by decide) rfl rfl (Nat.le_of_ble_eq_true rfl) rfl (q := 81) rfl (fun r78 τ78 e78 => ?_)
        obtain ⟨rfl, rfl⟩ := e78
        refine j_ior X (q := 82) d_C_measure_81 rfl ?_
        refine j_iast X (q := 83) d_C_measure_82 rfl (by decide) rfl (by omega) (hC _ _ (by decide)) rfl ?_
        refine j_iinc X (q := 86) d_C_measure_83 rfl (j_inc1 _) rfl ?_
        refine j_goto X (tgt := 19) d_C_measure_86 (by decide) ?_
        refine jxW.to (L' := [some (.inr (24, 0)), some (.inl (nI t)), some (.inl (nI (j + 1 + 1)))]) (by simp [jfg]) ?_
        refine ih (j + 1) _ (by omega) (by omega) (fun i hi => ?_) (fun g' h1 h2 => by rw [jxs_g _ _ _ _ _ h2, jxs_g _ _ _ _ _ h1, hf g' h1 h2])
        by_cases e : i = j + 1
        · subst e
          refine ⟨?_, ?_⟩
          · simp [jxs_at]; exact bI_ext (fun i _ => rfl)
          · simp [jxs_at]; rw [bI_or]; exact bI_ext (fun i _ => rfl)
        · have := hv i (by omega)
          refine ⟨?_, ?_⟩
          · simp [jxs_at, e]; exact this.1
          · simp [jxs_at, e]; exact this.2
  refine j_aload_n X (q := 1) d_C_measure_0 rfl rfl ?_
  refine j_getR X (C := jR0) (T := jT0) (N := 5) (ci := 0) (j := 2) (q := 4) d_C_measure_1 ju0 rfl rfl rfl (by decide) wl140 rfl (hC _ _ (by decide)) rfl ?_
  refine j_iconst X (v := (nI 0)) (q := 5) d_C_measure_4 (by decide +kernel) rfl ?_
  refine j_iload_n X (q := 6) d_C_measure_5 rfl rfl ?_
  refine j_callSN X (n := 1) d_C_measure_6 (c_J_only hI ht _) wl208 nl4 wl36 wl207 (by decide +kernel) ⟨rfl, rfl⟩ (by decide) rfl rfl (Nat.le_of_ble_eq_true rfl) rfl (q := 9) rfl (fun r6 τ6 e6 => ?_)
  obtain ⟨rfl, rfl⟩ := e6
  refine j_iast X (q := 10) d_C_measure_9 rfl (by decide) rfl (by omega) (hC _ _ (by decide)) rfl ?_
  refine j_aload_n X (q := 11) d_C_measure_10 rfl rfl ?_
  refine j_getR X (C := jR0) (T := jT0) (N := 5) (ci := 0) (j := 3) (q := 14) d_C_measure_11 ju0 rfl rfl rfl (by decide) wl141 rfl (hC _ _ (by decide)) rfl ?_
  refine j_iconst X (v := (nI 0)) (q := 15) d_C_measure_14 (by decide +kernel) rfl ?_
  refine j_iconst X (v := (nI 0)) (q := 16) d_C_measure_15 (by decide +kernel) rfl ?_
  refine j_iast X (q := 17) d_C_measure_16 rfl (by decide) rfl (by omega) (hC _ _ (by decide)) rfl ?_
  refine j_iconst X (v := (nI 1)) (q := 18) d_C_measure_17 (by decide +kernel) rfl ?_
  refine j_istore_n X (j := 2) (q := 19) d_C_measure_18 rfl (Nat.le_of_ble_eq_true rfl) rfl ?_
  refine jxW.to (L' := [some (.inr (24, 0)), some (.inl (nI t)), some (.inl (nI (0 + 1)))]) (by simp [jfg]) ?_
  refine K 9 0 _ (by omega) (by omega) (fun i hi => ?_) (fun g' h1 h2 => by rw [jxs_g _ _ _ _ _ h2, jxs_g _ _ _ _ _ h1])
  have e : i = 0 := by omega
  subst e
  refine ⟨?_, ?_⟩
  · simp [jxs_at]; exact bI_ext (fun i _ => rfl)
  · simp [jxs_at]; rw [bI_n0]; exact bI_ext (fun i _ => rfl)
