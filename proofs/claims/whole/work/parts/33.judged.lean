/-! The history: sets, places, reads judged. -/
set_option maxRecDepth 100000 in
set_option maxHeartbeats 4000000 in
theorem c_H_committedSet {l : Launch} {Θ : jxT} (hI : jxI Θ) (hC : ∀ g r, r < jrwH g → Θ.2.2.2 g r) {h : jH} {σ : jxM} (hw : jHw h) (hs : jHs h σ)  : jxMet l y_H_committedSet b_H_committedSet 3 (some FieldType.int) (jrm 2) Θ [.inr (1, 0)] σ (jan (bI (fun t => decide (hyS h t = 2))) σ) := by
  refine jxMet.of (own := "HistoryJudge$History") hI (by decide) rfl (Nat.le_of_ble_eq_true rfl) (fun Γ X => ?_)
  show jxW Γ Θ (jan (bI (fun t => decide (hyS h t = 2))) σ) 0 [some (.inr (1, 0)), none, none] [] σ
  have K : ∀ (N : Nat) (t : Nat), 9 - t < N → t ≤ 8 → jxW Γ Θ (jan (bI (fun t => decide (hyS h t = 2))) σ) 4 [some (.inr (1, 0)), some (.inl (bI (fun i => decide (i < t) && decide (hyS h i = 2)))), some (.inl (nI (t)))] [] σ := by
    intro N
    induction N with
    | zero => intro t hn; exact absurd hn (Nat.not_lt_zero _)
    | succ N ih =>
      intro t hn ht
      refine j_iload_n X (q := 5) d_H_committedSet_4 rfl rfl ?_
      refine j_bipush X (v := (nI 8)) (q := 7) d_H_committedSet_5 (by decide +kernel) rfl ?_
      refine j_ncmp_ge X (tgt := 31) (q := 10) d_H_committedSet_7 (by decide) rfl (by omega) (by omega) (fun h7 => ?_) (fun h7 => ?_)
      · have _b7 := True.intro
        refine j_iload_n X (q := 32) d_H_committedSet_31 rfl rfl ?_
        refine j_iret X d_H_committedSet_32 ?_
        exact ⟨by rw [bI_ext (S := fun i => decide (i < t) && decide (hyS h i = 2)) (T := fun t => decide (hyS h t = 2)) (fun i hi => by simp [show i < t by omega])], rfl⟩
      · have _b7 := True.intro
        refine j_aload_n X (q := 11) d_H_committedSet_10 rfl rfl ?_
        refine j_iload_n X (q := 12) d_H_committedSet_11 rfl rfl ?_
        refine j_callV X (n := 1) (C := jR2) (T := jT2) (N := 12) d_H_committedSet_12 (c_H_isCommitted hI hC hw hs (t := t) (by omega)) rfl rfl (hC _ _ (by decide)) wl259 wl210 wl211 wl37 wl212 (by decide +kernel) ⟨rfl, rfl⟩ (by decide) rfl rfl (Nat.le_of_ble_eq_true rfl) rfl (q := 15) rfl (fun r12 τ12 e12 => ?_)
        obtain ⟨rfl, rfl⟩ := e12
        refine j_bif_eq X (tgt := 25) (q := 18) d_H_committedSet_15 (by decide) rfl (fun h15 => ?_) (fun h15 => ?_)
        · have _b15 := True.intro
          refine j_iinc X (q := 28) d_H_committedSet_25 rfl (j_inc1 _) rfl ?_
          refine j_goto X (tgt := 4) d_H_committedSet_28 (by decide) ?_
          have e : bI (fun i => decide (i < t) && decide (hyS h i = 2)) = bI (fun i => decide (i < t + 1) && decide (hyS h i = 2)) := bI_ext (fun i hi => by
            by_cases q : i = t
            · subst q; simp [show ¬ hyS h i = 2 by simpa using h15]
            · rw [show decide (i < t + 1) = decide (i < t) by (by_cases z : i < t <;> simp [z] <;> omega)])
          refine jxW.cast (L' := [some (.inr (1, 0)), some (.inl (bI (fun i => decide (i < t + 1) && decide (hyS h i = 2)))), some (.inl (nI (t + 1)))]) (by rw [← e]; rfl) rfl rfl ?_
          exact ih (t + 1) (by omega) (by omega)
        · have _b15 := True.intro
          refine j_iload_n X (q := 19) d_H_committedSet_18 rfl rfl ?_
          refine j_iload_n X (q := 20) d_H_committedSet_19 rfl rfl ?_
          refine j_callSN X (n := 1) d_H_committedSet_20 (c_J_only hI (t := t) (by omega) σ) wl208 nl7 wl36 wl207 (by decide +kernel) ⟨rfl, rfl⟩ (by decide) rfl rfl (Nat.le_of_ble_eq_true rfl) rfl (q := 23) rfl (fun r20 τ20 e20 => ?_)
          obtain ⟨rfl, rfl⟩ := e20
          refine j_ior X (q := 24) d_H_committedSet_23 rfl ?_
          refine j_istore_n X (j := 1) (q := 25) d_H_committedSet_24 rfl (Nat.le_of_ble_eq_true rfl) rfl ?_
          refine j_iinc X (q := 28) d_H_committedSet_25 rfl (j_inc1 _) rfl ?_
          refine j_goto X (tgt := 4) d_H_committedSet_28 (by decide) ?_
          have e : bI (fun i => decide (i < t) && decide (hyS h i = 2)) ||| bI (fun i => decide (i = t)) = bI (fun i => decide (i < t + 1) && decide (hyS h i = 2)) := by
            rw [bI_or]
            exact bI_ext (fun i hi => by
              by_cases q : i = t
              · subst q; simp [show hyS h i = 2 by simpa using h15]
              · rw [show decide (i < t + 1) = decide (i < t) by (by_cases z : i < t <;> simp [z] <;> omega)]; simp [q])
          refine jxW.cast (L' := [some (.inr (1, 0)), some (.inl (bI (fun i => decide (i < t + 1) && decide (hyS h i = 2)))), some (.inl (nI (t + 1)))]) (by rw [← e]; rfl) rfl rfl ?_
          exact ih (t + 1) (by omega) (by omega)
  refine j_iconst X (v := (nI 0)) (q := 1) d_H_committedSet_0 (by decide +kernel) rfl ?_
  refine j_istore_n X (j := 1) (q := 2) d_H_committedSet_1 rfl (Nat.le_of_ble_eq_true rfl) rfl ?_
  refine j_iconst X (v := (nI 0)) (q := 3) d_H_committedSet_2 (by decide +kernel) rfl ?_
  refine j_istore_n X (j := 2) (q := 4) d_H_committedSet_3 rfl (Nat.le_of_ble_eq_true rfl) rfl ?_
  refine jxW.cast (L' := [some (.inr (1, 0)), some (.inl (bI (fun i => decide (i < 0) && decide (hyS h i = 2)))), some (.inl (nI (0)))]) (by rw [show bI (fun i => decide (i < 0) && decide (hyS h i = 2)) = nI 0 by (rw [show (fun i => decide (i < 0) && decide (hyS h i = 2)) = (fun _ => false) by (funext i; simp)]); exact bI_false]; rfl) rfl rfl ?_
  exact K 10 0 (by omega) (by omega)
set_option maxRecDepth 100000 in
set_option maxHeartbeats 4000000 in
theorem c_H_placeBehind {l : Launch} {Θ : jxT} (hI : jxI Θ) (hC : ∀ g r, r < jrwH g → Θ.2.2.2 g r) {h : jH} {σ : jxM} (hw : jHw h) (hs : jHs h σ) {x v : Nat} (hx : x < 6) (hv : v < 2 ^ 31) : jxMet l y_H_placeBehind b_H_placeBehind 4 (some FieldType.int) (jrm 1) Θ [.inr (1, 0), .inl (nI x), .inl (nI v)] σ (fun r σ' => ∃ k, r = some (.inl (nI k)) ∧ σ = σ' ∧ k ≤ hyon h x ∧ ((∃ i, i < hyon h x ∧ hyod h x i = v ∧ k = i + 1) ∨ ((∀ i, i < hyon h x → hyod h x i ≠ v) ∧ k = hyon h x))) := by
  refine jxMet.of (own := "HistoryJudge$History") hI (by decide) rfl (Nat.le_of_ble_eq_true rfl) (fun Γ X => ?_)
  show jxW Γ Θ (fun r σ' => ∃ k, r = some (.inl (nI k)) ∧ σ = σ' ∧ k ≤ hyon h x ∧ ((∃ i, i < hyon h x ∧ hyod h x i = v ∧ k = i + 1) ∨ ((∀ i, i < hyon h x → hyod h x i ≠ v) ∧ k = hyon h x))) 0 [some (.inr (1, 0)), some (.inl (nI x)), some (.inl (nI v)), none] [] σ
  have bV := jHw_V hw
  have bO := jHw_on hw hx
  have K : ∀ (N : Nat) (i : Nat), hyon h x - i < N → i ≤ hyon h x → (∀ j, j < i → hyod h x j ≠ v) → jxW Γ Θ (fun r σ' => ∃ k, r = some (.inl (nI k)) ∧ σ = σ' ∧ k ≤ hyon h x ∧ ((∃ i, i < hyon h x ∧ hyod h x i = v ∧ k = i + 1) ∨ ((∀ i, i < hyon h x → hyod h x i ≠ v) ∧ k = hyon h x))) 2 [some (.inr (1, 0)), some (.inl (nI x)), some (.inl (nI v)), some (.inl (nI i))] [] σ := by
    intro N
    induction N with
    | zero => intro i hn; exact absurd hn (Nat.not_lt_zero _)
    | succ N ih =>
      intro i hn hi hno
      refine j_iload_n X (q := 3) d_H_placeBehind_2 rfl rfl ?_
      refine j_aload_n X (q := 4) d_H_placeBehind_3 rfl rfl ?_
      refine j_getR X (C := jR2) (T := jT2) (N := 12) (ci := 2) (j := 11) (q := 7) d_H_placeBehind_4 ju2 rfl rfl rfl (by decide) wl100 rfl (hC _ _ (by decide)) rfl ?_
      refine j_iload_n X (q := 8) d_H_placeBehind_7 rfl rfl ?_
      refine j_iald X (q := 9) d_H_placeBehind_8 rfl (by decide) rfl (by omega) (hC _ _ (by decide)) rfl (jHs_on hs hx) ?_
      refine j_ncmp_ge X (tgt := 34) (q := 12) d_H_placeBehind_9 (by decide) rfl (by omega) (by omega) (fun h9 => ?_) (fun h9 => ?_)
      · have _b9 := True.intro
        refine j_aload_n X (q := 35) d_H_placeBehind_34 rfl rfl ?_
        refine j_getR X (C := jR2) (T := jT2) (N := 12) (ci := 2) (j := 11) (q := 38) d_H_placeBehind_35 ju2 rfl rfl rfl (by decide) wl100 rfl (hC _ _ (by decide)) rfl ?_
        refine j_iload_n X (q := 39) d_H_placeBehind_38 rfl rfl ?_
        refine j_iald X (q := 40) d_H_placeBehind_39 rfl (by decide) rfl (by omega) (hC _ _ (by decide)) rfl (jHs_on hs hx) ?_
        refine j_iret X d_H_placeBehind_40 ?_
        exact ⟨hyon h x, rfl, rfl, Nat.le_refl _, Or.inr ⟨fun j hj => hno j (by omega), rfl⟩⟩
      · have _b9 := True.intro
        have bo := (jHw_od hw hx (show i < hyon h x by omega)).1
        refine j_aload_n X (q := 13) d_H_placeBehind_12 rfl rfl ?_
        refine j_getR X (C := jR2) (T := jT2) (N := 12) (ci := 2) (j := 10) (q := 16) d_H_placeBehind_13 ju2 rfl rfl rfl (by decide) wl97 rfl (hC _ _ (by decide)) rfl ?_
        refine j_iload_n X (q := 17) d_H_placeBehind_16 rfl rfl ?_
        refine j_aald X (q := 18) d_H_placeBehind_17 rfl (by decide) rfl (by omega) (hC _ _ (by decide)) rfl ?_
        refine j_iload_n X (q := 19) d_H_placeBehind_18 rfl rfl ?_
        refine j_iald X (q := 20) d_H_placeBehind_19 rfl (by decide) rfl (by omega) (hC _ _ (by show _ < 6; omega)) rfl (jHs_od hs hx (by omega)) ?_
        refine j_iload_n X (q := 21) d_H_placeBehind_20 rfl rfl ?_
        refine j_ncmp_ne X (tgt := 28) (q := 24) d_H_placeBehind_21 (by decide) rfl (by omega) (by omega) (fun h21 => ?_) (fun h21 => ?_)
        · have _b21 := True.intro
          refine j_iinc X (q := 31) d_H_placeBehind_28 rfl (j_inc1 _) rfl ?_
          refine j_goto X (tgt := 2) d_H_placeBehind_31 (by decide) ?_
          exact ih (i + 1) (by omega) (by omega) (fun j hj => by
            by_cases q : j = i
            · rw [q]; exact h21
            · exact hno j (by omega))
        · have _b21 := True.intro
          refine j_iload_n X (q := 25) d_H_placeBehind_24 rfl rfl ?_
          refine j_iconst X (v := (nI 1)) (q := 26) d_H_placeBehind_25 (by decide +kernel) rfl ?_
          refine j_iadd X (q := 27) d_H_placeBehind_26 rfl ?_
          refine j_iret X d_H_placeBehind_27 ?_
          exact ⟨i + 1, by rw [nI_add], rfl, by omega, Or.inl ⟨i, by omega, h21, rfl⟩⟩
  refine j_iconst X (v := (nI 0)) (q := 1) d_H_placeBehind_0 (by decide +kernel) rfl ?_
  refine j_istore_n X (j := 3) (q := 2) d_H_placeBehind_1 rfl (Nat.le_of_ble_eq_true rfl) rfl ?_
  exact K 9 0 (by omega) (by omega) (fun j hj => by omega)
/-- o' is the writer of the next version behind o in the order of x (behind none: the first), if there is a next -/
def jnwr (h : jH) (x : Nat) (o o' : Option Nat) : Prop :=
  (o' = none ∧ (o = none → hyon h x = 0) ∧ ∀ v, o = some v → ∀ i, i + 1 < hyon h x → hyod h x i ≠ v) ∨
  (∃ i, i < hyon h x ∧ ((o = none ∧ i = 0) ∨ (0 < i ∧ o = some (hyod h x (i - 1)))) ∧ o' = some (hyW h (hyod h x i)))
set_option maxRecDepth 100000 in
set_option maxHeartbeats 4000000 in
theorem c_H_writerOfNext {l : Launch} {Θ : jxT} (hI : jxI Θ) (hC : ∀ g r, r < jrwH g → Θ.2.2.2 g r) {h : jH} {σ : jxM} (hw : jHw h) (hs : jHs h σ) {x : Nat} {o : Option Nat} (hx : x < 6) (ho : ∀ v, o = some v → v < hyV h) : jxMet l y_H_writerOfNext b_H_writerOfNext 4 (some FieldType.int) (jrm 2) Θ [.inr (1, 0), .inl (nI x), .inl (vI o)] σ (fun r σ' => ∃ o', r = some (.inl (vI o')) ∧ σ = σ' ∧ (∀ w, o' = some w → w < 8) ∧ jnwr h x o o') := by
  refine jxMet.of (own := "HistoryJudge$History") hI (by decide) rfl (Nat.le_of_ble_eq_true rfl) (fun Γ X => ?_)
  show jxW Γ Θ (fun r σ' => ∃ o', r = some (.inl (vI o')) ∧ σ = σ' ∧ (∀ w, o' = some w → w < 8) ∧ jnwr h x o o') 0 [some (.inr (1, 0)), some (.inl (nI x)), some (.inl (vI o)), none] [] σ
  have bV := jHw_V hw
  have bO := jHw_on hw hx
  have bm := vI_m1 o (fun v hv => by have := ho v hv; omega)
  refine j_iload_n X (q := 1) d_H_writerOfNext_0 rfl rfl ?_
  refine j_iconst X (v := (-1)) (q := 2) d_H_writerOfNext_1 (by decide +kernel) rfl ?_
  refine j_icmp_ne X (tgt := 9) (q := 5) d_H_writerOfNext_2 (by decide) rfl (fun h2 => ?_) (fun h2 => ?_)
  · have _b2 := True.intro
    obtain ⟨v, rfl⟩ : ∃ v, o = some v := by
      cases o with
      | none => exact absurd rfl h2
      | some v => exact ⟨v, rfl⟩
    have bv := ho v rfl
    refine j_aload_n X (q := 10) d_H_writerOfNext_9 rfl rfl ?_
    refine j_iload_n X (q := 11) d_H_writerOfNext_10 rfl rfl ?_
    refine j_iload_n X (q := 12) d_H_writerOfNext_11 rfl rfl ?_
    refine j_callV X (n := 2) (C := jR2) (T := jT2) (N := 12) d_H_writerOfNext_12 (c_H_placeBehind hI hC hw hs (x := x) (v := v) hx (by omega)) rfl rfl (hC _ _ (by decide)) wl220 wl221 wl2 wl37 wl222 (by decide +kernel) ⟨rfl, rfl⟩ (by decide) rfl rfl (Nat.le_of_ble_eq_true rfl) rfl (q := 15) rfl (fun r12 τ12 e12 => ?_)
    obtain ⟨k, rfl, rfl, hk, hk2⟩ := e12
    refine j_istore_n X (j := 3) (q := 16) d_H_writerOfNext_15 rfl (Nat.le_of_ble_eq_true rfl) rfl ?_
    refine j_iload_n X (q := 17) d_H_writerOfNext_16 rfl rfl ?_
    refine j_aload_n X (q := 18) d_H_writerOfNext_17 rfl rfl ?_
    refine j_getR X (C := jR2) (T := jT2) (N := 12) (ci := 2) (j := 11) (q := 21) d_H_writerOfNext_18 ju2 rfl rfl rfl (by decide) wl100 rfl (hC _ _ (by decide)) rfl ?_
    refine j_iload_n X (q := 22) d_H_writerOfNext_21 rfl rfl ?_
    refine j_iald X (q := 23) d_H_writerOfNext_22 rfl (by decide) rfl (by omega) (hC _ _ (by decide)) rfl (jHs_on hs hx) ?_
    refine j_ncmp_ge X (tgt := 42) (q := 26) d_H_writerOfNext_23 (by decide) rfl (by omega) (by omega) (fun h23 => ?_) (fun h23 => ?_)
    · have _b23 := True.intro
      refine j_iconst X (v := (-1)) (q := 43) d_H_writerOfNext_42 (by decide +kernel) rfl ?_
      refine j_iret X d_H_writerOfNext_43 ?_
      refine ⟨none, rfl, rfl, fun w q => (by cases q), Or.inl ⟨rfl, fun q => (by cases q), fun w hw' i hi e => ?_⟩⟩
      cases hw'
      rcases hk2 with ⟨j, h1, h2', h3⟩ | ⟨h1, -⟩
      · have := jHw_inj hw hx (show i < hyon h x by omega) h1 (by rw [e, h2'])
        omega
      · exact h1 i (by omega) e
    · have _b23 := True.intro
      have bo := fun i (hi : i < hyon h x) => (jHw_od hw hx hi).1
      refine j_aload_n X (q := 27) d_H_writerOfNext_26 rfl rfl ?_
      refine j_getR X (C := jR2) (T := jT2) (N := 12) (ci := 2) (j := 1) (q := 30) d_H_writerOfNext_27 ju2 rfl rfl rfl (by decide) wl75 rfl (hC _ _ (by decide)) rfl ?_
      refine j_aload_n X (q := 31) d_H_writerOfNext_30 rfl rfl ?_
      refine j_getR X (C := jR2) (T := jT2) (N := 12) (ci := 2) (j := 10) (q := 34) d_H_writerOfNext_31 ju2 rfl rfl rfl (by decide) wl97 rfl (hC _ _ (by decide)) rfl ?_
      refine j_iload_n X (q := 35) d_H_writerOfNext_34 rfl rfl ?_
      refine j_aald X (q := 36) d_H_writerOfNext_35 rfl (by decide) rfl (by omega) (hC _ _ (by decide)) rfl ?_
      refine j_iload_n X (q := 37) d_H_writerOfNext_36 rfl rfl ?_
      refine j_iald X (q := 38) d_H_writerOfNext_37 rfl (by decide) rfl (by omega) (hC _ _ (by show _ < 6; omega)) rfl (jHs_od hs hx (by omega)) ?_
      refine j_iald X (q := 39) d_H_writerOfNext_38 rfl (by decide) rfl (Nat.lt_of_lt_of_le (bo _ (by omega)) bV) (hC _ _ (by decide)) rfl (jHs_W hs (bo _ (by omega))) ?_
      refine j_goto X (tgt := 43) d_H_writerOfNext_39 (by decide) ?_
      refine j_iret X d_H_writerOfNext_43 ?_
      refine ⟨some (hyW h (hyod h x k)), rfl, rfl, fun w q => (by cases q; exact jHw_W hw (bo _ (by omega))), Or.inr ⟨k, by omega, Or.inr ?_, rfl⟩⟩
      rcases hk2 with ⟨j, h1, h2', h3⟩ | ⟨-, h3⟩
      · subst h3; exact ⟨by omega, by rw [Nat.add_sub_cancel, h2']⟩
      · omega
  · have _b2 := True.intro
    obtain rfl := bm.mp h2
    refine j_iconst X (v := (nI 0)) (q := 6) d_H_writerOfNext_5 (by decide +kernel) rfl ?_
    refine j_goto X (tgt := 15) d_H_writerOfNext_6 (by decide) ?_
    refine j_istore_n X (j := 3) (q := 16) d_H_writerOfNext_15 rfl (Nat.le_of_ble_eq_true rfl) rfl ?_
    refine j_iload_n X (q := 17) d_H_writerOfNext_16 rfl rfl ?_
    refine j_aload_n X (q := 18) d_H_writerOfNext_17 rfl rfl ?_
    refine j_getR X (C := jR2) (T := jT2) (N := 12) (ci := 2) (j := 11) (q := 21) d_H_writerOfNext_18 ju2 rfl rfl rfl (by decide) wl100 rfl (hC _ _ (by decide)) rfl ?_
    refine j_iload_n X (q := 22) d_H_writerOfNext_21 rfl rfl ?_
    refine j_iald X (q := 23) d_H_writerOfNext_22 rfl (by decide) rfl (by omega) (hC _ _ (by decide)) rfl (jHs_on hs hx) ?_
    refine j_ncmp_ge X (tgt := 42) (q := 26) d_H_writerOfNext_23 (by decide) rfl (by omega) (by omega) (fun h23 => ?_) (fun h23 => ?_)
    · have _b23 := True.intro
      refine j_iconst X (v := (-1)) (q := 43) d_H_writerOfNext_42 (by decide +kernel) rfl ?_
      refine j_iret X d_H_writerOfNext_43 ?_
      exact ⟨none, rfl, rfl, fun w q => (by cases q), Or.inl ⟨rfl, fun _ => (by omega), fun w q => (by cases q)⟩⟩
    · have _b23 := True.intro
      have bo := fun i (hi : i < hyon h x) => (jHw_od hw hx hi).1
      refine j_aload_n X (q := 27) d_H_writerOfNext_26 rfl rfl ?_
      refine j_getR X (C := jR2) (T := jT2) (N := 12) (ci := 2) (j := 1) (q := 30) d_H_writerOfNext_27 ju2 rfl rfl rfl (by decide) wl75 rfl (hC _ _ (by decide)) rfl ?_
      refine j_aload_n X (q := 31) d_H_writerOfNext_30 rfl rfl ?_
      refine j_getR X (C := jR2) (T := jT2) (N := 12) (ci := 2) (j := 10) (q := 34) d_H_writerOfNext_31 ju2 rfl rfl rfl (by decide) wl97 rfl (hC _ _ (by decide)) rfl ?_
      refine j_iload_n X (q := 35) d_H_writerOfNext_34 rfl rfl ?_
      refine j_aald X (q := 36) d_H_writerOfNext_35 rfl (by decide) rfl (by omega) (hC _ _ (by decide)) rfl ?_
      refine j_iload_n X (q := 37) d_H_writerOfNext_36 rfl rfl ?_
      refine j_iald X (q := 38) d_H_writerOfNext_37 rfl (by decide) rfl (by omega) (hC _ _ (by show _ < 6; omega)) rfl (jHs_od hs hx (by omega)) ?_
      refine j_iald X (q := 39) d_H_writerOfNext_38 rfl (by decide) rfl (Nat.lt_of_lt_of_le (bo _ (by omega)) bV) (hC _ _ (by decide)) rfl (jHs_W hs (bo _ (by omega))) ?_
      refine j_goto X (tgt := 43) d_H_writerOfNext_39 (by decide) ?_
      refine j_iret X d_H_writerOfNext_43 ?_
      exact ⟨some (hyW h (hyod h x 0)), rfl, rfl, fun w q => (by cases q; exact jHw_W hw (bo _ (by omega))), Or.inr ⟨0, by omega, Or.inl ⟨rfl, rfl⟩, rfl⟩⟩
set_option maxRecDepth 100000 in
set_option maxHeartbeats 4000000 in
theorem c_H_isJudgedRead {l : Launch} {Θ : jxT} (hI : jxI Θ) (hC : ∀ g r, r < jrwH g → Θ.2.2.2 g r) {h : jH} {σ : jxM} (hw : jHw h) (hs : jHs h σ) {r : Nat} (hr : r < hyR h) : jxMet l y_H_isJudgedRead b_H_isJudgedRead 2 (some FieldType.boolean) (jrm 2) Θ [.inr (1, 0), .inl (nI r)] σ (jan (jB (decide (hyS h (hyrd h r) = 2) && (hyrv h r).isSome)) σ) := by
  refine jxMet.of (own := "HistoryJudge$History") hI (by decide) rfl (Nat.le_of_ble_eq_true rfl) (fun Γ X => ?_)
  show jxW Γ Θ (jan (jB (decide (hyS h (hyrd h r) = 2) && (hyrv h r).isSome)) σ) 0 [some (.inr (1, 0)), some (.inl (nI r))] [] σ
  have bV := jHw_V hw
  have bR := jHw_R hw
  have b1 := jHw_rd hw hr
  have bm := vI_m1 (hyrv h r) (fun v hv => by have := (jHw_rv hw hr hv).1; omega)
  refine j_aload_n X (q := 1) d_H_isJudgedRead_0 rfl rfl ?_
  refine j_aload_n X (q := 2) d_H_isJudgedRead_1 rfl rfl ?_
  refine j_getR X (C := jR2) (T := jT2) (N := 12) (ci := 2) (j := 4) (q := 5) d_H_isJudgedRead_2 ju2 rfl rfl rfl (by decide) wl81 rfl (hC _ _ (by decide)) rfl ?_
  refine j_iload_n X (q := 6) d_H_isJudgedRead_5 rfl rfl ?_
  refine j_iald X (q := 7) d_H_isJudgedRead_6 rfl (by decide) rfl (by omega) (hC _ _ (by decide)) rfl (jHs_rd hs hr) ?_
  refine j_callV X (n := 1) (C := jR2) (T := jT2) (N := 12) d_H_isJudgedRead_7 (c_H_isCommitted hI hC hw hs b1) rfl rfl (hC _ _ (by decide)) wl259 wl210 wl211 wl37 wl212 (by decide +kernel) ⟨rfl, rfl⟩ (by decide) rfl rfl (Nat.le_of_ble_eq_true rfl) rfl (q := 10) rfl (fun r7 τ7 e7 => ?_)
  obtain ⟨rfl, rfl⟩ := e7
  refine j_bif_eq X (tgt := 27) (q := 13) d_H_isJudgedRead_10 (by decide) rfl (fun h10 => ?_) (fun h10 => ?_)
  · have _b10 := True.intro
    have b2 : (decide (hyS h (hyrd h r) = 2) && (hyrv h r).isSome) = false := by rw [h10]; rfl
    refine j_iconst X (v := (nI 0)) (q := 28) d_H_isJudgedRead_27 (by decide +kernel) rfl ?_
    refine j_zret X d_H_isJudgedRead_28 (by decide +kernel) ?_
    exact ⟨by rw [b2]; rfl, rfl⟩
  · have _b10 := True.intro
    refine j_aload_n X (q := 14) d_H_isJudgedRead_13 rfl rfl ?_
    refine j_getR X (C := jR2) (T := jT2) (N := 12) (ci := 2) (j := 6) (q := 17) d_H_isJudgedRead_14 ju2 rfl rfl rfl (by decide) wl87 rfl (hC _ _ (by decide)) rfl ?_
    refine j_iload_n X (q := 18) d_H_isJudgedRead_17 rfl rfl ?_
    refine j_iald X (q := 19) d_H_isJudgedRead_18 rfl (by decide) rfl (by omega) (hC _ _ (by decide)) rfl (jHs_rv hs hr) ?_
    refine j_iconst X (v := (-1)) (q := 20) d_H_isJudgedRead_19 (by decide +kernel) rfl ?_
    refine j_icmp_eq X (tgt := 27) (q := 23) d_H_isJudgedRead_20 (by decide) rfl (fun h20 => ?_) (fun h20 => ?_)
    · have _b20 := True.intro
      have b2 : (decide (hyS h (hyrd h r) = 2) && (hyrv h r).isSome) = false := by rw [bm.mp h20]; simp
      refine j_iconst X (v := (nI 0)) (q := 28) d_H_isJudgedRead_27 (by decide +kernel) rfl ?_
      refine j_zret X d_H_isJudgedRead_28 (by decide +kernel) ?_
      exact ⟨by rw [b2]; rfl, rfl⟩
    · have _b20 := True.intro
      have b2 : (decide (hyS h (hyrd h r) = 2) && (hyrv h r).isSome) = true := by
        rw [h10]
        cases e : hyrv h r with
        | some v => rfl
        | none => exact absurd (bm.mpr e) h20
      refine j_iconst X (v := (nI 1)) (q := 24) d_H_isJudgedRead_23 (by decide +kernel) rfl ?_
      refine j_goto X (tgt := 28) d_H_isJudgedRead_24 (by decide) ?_
      refine j_zret X d_H_isJudgedRead_28 (by decide +kernel) ?_
      exact ⟨by rw [b2]; rfl, rfl⟩
set_option maxRecDepth 100000 in
set_option maxHeartbeats 4000000 in
theorem c_H_isOfAnotherCommitted {l : Launch} {Θ : jxT} (hI : jxI Θ) (hC : ∀ g r, r < jrwH g → Θ.2.2.2 g r) {h : jH} {σ : jxM} (hw : jHw h) (hs : jHs h σ) {r : Nat} (hr : r < hyR h) {v : Nat} (hv : hyrv h r = some v) : jxMet l y_H_isOfAnotherCommitted b_H_isOfAnotherCommitted 3 (some FieldType.boolean) (jrm 2) Θ [.inr (1, 0), .inl (nI r)] σ (jan (jB (decide (hyW h v ≠ hyrd h r) && decide (hyS h (hyW h v) = 2))) σ) := by
  refine jxMet.of (own := "HistoryJudge$History") hI (by decide) rfl (Nat.le_of_ble_eq_true rfl) (fun Γ X => ?_)
  show jxW Γ Θ (jan (jB (decide (hyW h v ≠ hyrd h r) && decide (hyS h (hyW h v) = 2))) σ) 0 [some (.inr (1, 0)), some (.inl (nI r)), none] [] σ
  have bV := jHw_V hw
  have bR := jHw_R hw
  have b1 := jHw_rd hw hr
  have b0 := (jHw_rv hw hr hv).1
  have b3 := jHw_W hw b0
  have er : σ 7 0 r = nI v := by rw [jHs_rv hs hr, hv]; rfl
  refine j_aload_n X (q := 1) d_H_isOfAnotherCommitted_0 rfl rfl ?_
  refine j_getR X (C := jR2) (T := jT2) (N := 12) (ci := 2) (j := 1) (q := 4) d_H_isOfAnotherCommitted_1 ju2 rfl rfl rfl (by decide) wl75 rfl (hC _ _ (by decide)) rfl ?_
  refine j_aload_n X (q := 5) d_H_isOfAnotherCommitted_4 rfl rfl ?_
  refine j_getR X (C := jR2) (T := jT2) (N := 12) (ci := 2) (j := 6) (q := 8) d_H_isOfAnotherCommitted_5 ju2 rfl rfl rfl (by decide) wl87 rfl (hC _ _ (by decide)) rfl ?_
  refine j_iload_n X (q := 9) d_H_isOfAnotherCommitted_8 rfl rfl ?_
  refine j_iald X (q := 10) d_H_isOfAnotherCommitted_9 rfl (by decide) rfl (by omega) (hC _ _ (by decide)) rfl er ?_
  refine j_iald X (q := 11) d_H_isOfAnotherCommitted_10 rfl (by decide) rfl (by omega) (hC _ _ (by decide)) rfl (jHs_W hs b0) ?_
  refine j_istore_n X (j := 2) (q := 12) d_H_isOfAnotherCommitted_11 rfl (Nat.le_of_ble_eq_true rfl) rfl ?_
  refine j_iload_n X (q := 13) d_H_isOfAnotherCommitted_12 rfl rfl ?_
  refine j_aload_n X (q := 14) d_H_isOfAnotherCommitted_13 rfl rfl ?_
  refine j_getR X (C := jR2) (T := jT2) (N := 12) (ci := 2) (j := 4) (q := 17) d_H_isOfAnotherCommitted_14 ju2 rfl rfl rfl (by decide) wl81 rfl (hC _ _ (by decide)) rfl ?_
  refine j_iload_n X (q := 18) d_H_isOfAnotherCommitted_17 rfl rfl ?_
  refine j_iald X (q := 19) d_H_isOfAnotherCommitted_18 rfl (by decide) rfl (by omega) (hC _ _ (by decide)) rfl (jHs_rd hs hr) ?_
  refine j_ncmp_eq X (tgt := 34) (q := 22) d_H_isOfAnotherCommitted_19 (by decide) rfl (by omega) (by omega) (fun h19 => ?_) (fun h19 => ?_)
  · have _b19 := True.intro
    have b2 : (decide (hyW h v ≠ hyrd h r) && decide (hyS h (hyW h v) = 2)) = false := by simp [h19]
    refine j_iconst X (v := (nI 0)) (q := 35) d_H_isOfAnotherCommitted_34 (by decide +kernel) rfl ?_
    refine j_zret X d_H_isOfAnotherCommitted_35 (by decide +kernel) ?_
    exact ⟨by rw [b2]; rfl, rfl⟩
  · have _b19 := True.intro
    refine j_aload_n X (q := 23) d_H_isOfAnotherCommitted_22 rfl rfl ?_
    refine j_iload_n X (q := 24) d_H_isOfAnotherCommitted_23 rfl rfl ?_
    refine j_callV X (n := 1) (C := jR2) (T := jT2) (N := 12) d_H_isOfAnotherCommitted_24 (c_H_isCommitted hI hC hw hs b3) rfl rfl (hC _ _ (by decide)) wl259 wl210 wl211 wl37 wl212 (by decide +kernel) ⟨rfl, rfl⟩ (by decide) rfl rfl (Nat.le_of_ble_eq_true rfl) rfl (q := 27) rfl (fun r24 τ24 e24 => ?_)
    obtain ⟨rfl, rfl⟩ := e24
    refine j_bif_eq X (tgt := 34) (q := 30) d_H_isOfAnotherCommitted_27 (by decide) rfl (fun h27 => ?_) (fun h27 => ?_)
    · have _b27 := True.intro
      have b2 : (decide (hyW h v ≠ hyrd h r) && decide (hyS h (hyW h v) = 2)) = false := by rw [h27]; simp
      refine j_iconst X (v := (nI 0)) (q := 35) d_H_isOfAnotherCommitted_34 (by decide +kernel) rfl ?_
      refine j_zret X d_H_isOfAnotherCommitted_35 (by decide +kernel) ?_
      exact ⟨by rw [b2]; rfl, rfl⟩
    · have _b27 := True.intro
      have b2 : (decide (hyW h v ≠ hyrd h r) && decide (hyS h (hyW h v) = 2)) = true := by rw [h27]; simp [h19]
      refine j_iconst X (v := (nI 1)) (q := 31) d_H_isOfAnotherCommitted_30 (by decide +kernel) rfl ?_
      refine j_goto X (tgt := 35) d_H_isOfAnotherCommitted_31 (by decide) ?_
      refine j_zret X d_H_isOfAnotherCommitted_35 (by decide +kernel) ?_
      exact ⟨by rw [b2]; rfl, rfl⟩
/-- read r is one by a committed transaction of a version that somebody wrote and that did not commit -/
def jab (h : jH) (r : Nat) : Prop := hyS h (hyrd h r) = 2 ∧ ∃ v, hyrv h r = some v ∧ hyS h (hyW h v) ≠ 2
/-- read r is one by a committed transaction of another committed one's version that is not final -/
def jun (h : jH) (r : Nat) : Prop := hyS h (hyrd h r) = 2 ∧ ∃ v, hyrv h r = some v ∧ hyW h v ≠ hyrd h r ∧ hyS h (hyW h v) = 2 ∧ hylt h (hyW h v) (hyI h v) ≠ some v
set_option maxRecDepth 100000 in
set_option maxHeartbeats 4000000 in
theorem c_H_hasAbortedRead {l : Launch} {Θ : jxT} (hI : jxI Θ) (hC : ∀ g r, r < jrwH g → Θ.2.2.2 g r) {h : jH} {σ : jxM} (hw : jHw h) (hs : jHs h σ)  : jxMet l y_H_hasAbortedRead b_H_hasAbortedRead 2 (some FieldType.boolean) (jrm 3) Θ [.inr (1, 0)] σ (jan (jB (jd (∃ r, r < hyR h ∧ jab h r))) σ) := by
  refine jxMet.of (own := "HistoryJudge$History") hI (by decide) rfl (Nat.le_of_ble_eq_true rfl) (fun Γ X => ?_)
  show jxW Γ Θ (jan (jB (jd (∃ r, r < hyR h ∧ jab h r))) σ) 0 [some (.inr (1, 0)), none] [] σ
  have bV := jHw_V hw
  have bR := jHw_R hw
  have K : ∀ (N : Nat) (r : Nat), hyR h - r < N → r ≤ hyR h → (∀ j, j < r → ¬ jab h j) → jxW Γ Θ (jan (jB (jd (∃ r, r < hyR h ∧ jab h r))) σ) 2 [some (.inr (1, 0)), some (.inl (nI r))] [] σ := by
    intro N
    induction N with
    | zero => intro r hn; exact absurd hn (Nat.not_lt_zero _)
    | succ N ih =>
      intro r hn hr hno
      refine j_iload_n X (q := 3) d_H_hasAbortedRead_2 rfl rfl ?_
      refine j_aload_n X (q := 4) d_H_hasAbortedRead_3 rfl rfl ?_
      refine j_getI X (C := jR2) (T := jT2) (N := 12) (ci := 2) (j := 8) (q := 7) d_H_hasAbortedRead_4 ju2 rfl rfl rfl (by decide) wl92 rfl (hC _ _ (by decide)) rfl (jHs_R hs) ?_
      refine j_ncmp_ge X (tgt := 44) (q := 10) d_H_hasAbortedRead_7 (by decide) rfl (by omega) (by omega) (fun h7 => ?_) (fun h7 => ?_)
      · have _b7 := True.intro
        refine j_iconst X (v := (nI 0)) (q := 45) d_H_hasAbortedRead_44 (by decide +kernel) rfl ?_
        refine j_zret X d_H_hasAbortedRead_45 (by decide +kernel) ?_
        exact ⟨by rw [jd_no.mpr (fun ⟨j, hj, q⟩ => hno j (by omega) q)]; rfl, rfl⟩
      · have _b7 := True.intro
        refine j_aload_n X (q := 11) d_H_hasAbortedRead_10 rfl rfl ?_
        refine j_iload_n X (q := 12) d_H_hasAbortedRead_11 rfl rfl ?_
        refine j_callV X (n := 1) (C := jR2) (T := jT2) (N := 12) d_H_hasAbortedRead_12 (c_H_isJudgedRead hI hC hw hs (r := r) (by omega)) rfl rfl (hC _ _ (by decide)) wl256 wl257 wl6 wl37 wl258 (by decide +kernel) ⟨rfl, rfl⟩ (by decide) rfl rfl (Nat.le_of_ble_eq_true rfl) rfl (q := 15) rfl (fun r12 τ12 e12 => ?_)
        obtain ⟨rfl, rfl⟩ := e12
        refine j_bif_eq X (tgt := 38) (q := 18) d_H_hasAbortedRead_15 (by decide) rfl (fun h15 => ?_) (fun h15 => ?_)
        · have _b15 := True.intro
          refine j_iinc X (q := 41) d_H_hasAbortedRead_38 rfl (j_inc1 _) rfl ?_
          refine j_goto X (tgt := 2) d_H_hasAbortedRead_41 (by decide) ?_
          exact ih (r + 1) (by omega) (by omega) (fun j hj => by
            by_cases q : j = r
            · rw [q]; exact (fun q => by obtain ⟨q1, v, q2, -⟩ := q; rw [q1, q2] at h15; cases h15)
            · exact hno j (by omega))
        · have _b15 := True.intro
          obtain ⟨v, hv⟩ : ∃ v, hyrv h r = some v := by
            rw [Bool.and_eq_true] at h15
            exact Option.isSome_iff_exists.mp h15.2
          have hc : hyS h (hyrd h r) = 2 := by
            rw [Bool.and_eq_true, decide_eq_true_eq] at h15
            exact h15.1
          have b0 := (jHw_rv hw (show r < hyR h by omega) hv).1
          have b3 := jHw_W hw b0
          have er : σ 7 0 r = nI v := by rw [jHs_rv hs (show r < hyR h by omega), hv]; rfl
          refine j_aload_n X (q := 19) d_H_hasAbortedRead_18 rfl rfl ?_
          refine j_aload_n X (q := 20) d_H_hasAbortedRead_19 rfl rfl ?_
          refine j_getR X (C := jR2) (T := jT2) (N := 12) (ci := 2) (j := 1) (q := 23) d_H_hasAbortedRead_20 ju2 rfl rfl rfl (by decide) wl75 rfl (hC _ _ (by decide)) rfl ?_
          refine j_aload_n X (q := 24) d_H_hasAbortedRead_23 rfl rfl ?_
          refine j_getR X (C := jR2) (T := jT2) (N := 12) (ci := 2) (j := 6) (q := 27) d_H_hasAbortedRead_24 ju2 rfl rfl rfl (by decide) wl87 rfl (hC _ _ (by decide)) rfl ?_
          refine j_iload_n X (q := 28) d_H_hasAbortedRead_27 rfl rfl ?_
          refine j_iald X (q := 29) d_H_hasAbortedRead_28 rfl (by decide) rfl (by omega) (hC _ _ (by decide)) rfl er ?_
          refine j_iald X (q := 30) d_H_hasAbortedRead_29 rfl (by decide) rfl (by omega) (hC _ _ (by decide)) rfl (jHs_W hs b0) ?_
          refine j_callV X (n := 1) (C := jR2) (T := jT2) (N := 12) d_H_hasAbortedRead_30 (c_H_isCommitted hI hC hw hs b3) rfl rfl (hC _ _ (by decide)) wl259 wl210 wl211 wl37 wl212 (by decide +kernel) ⟨rfl, rfl⟩ (by decide) rfl rfl (Nat.le_of_ble_eq_true rfl) rfl (q := 33) rfl (fun r30 τ30 e30 => ?_)
          obtain ⟨rfl, rfl⟩ := e30
          refine j_bif_ne X (tgt := 38) (q := 36) d_H_hasAbortedRead_33 (by decide) rfl (fun h33 => ?_) (fun h33 => ?_)
          · have _b33 := True.intro
            refine j_iinc X (q := 41) d_H_hasAbortedRead_38 rfl (j_inc1 _) rfl ?_
            refine j_goto X (tgt := 2) d_H_hasAbortedRead_41 (by decide) ?_
            exact ih (r + 1) (by omega) (by omega) (fun j hj => by
              by_cases q : j = r
              · rw [q]; exact (fun q => by obtain ⟨q1, w, q2, q3⟩ := q; rw [hv] at q2; cases q2; exact q3 (by simpa using h33))
              · exact hno j (by omega))
          · have _b33 := True.intro
            refine j_iconst X (v := (nI 1)) (q := 37) d_H_hasAbortedRead_36 (by decide +kernel) rfl ?_
            refine j_zret X d_H_hasAbortedRead_37 (by decide +kernel) ?_
            exact ⟨by rw [jd_iff.mpr ⟨r, by omega, hc, v, hv, by simpa using h33⟩]; rfl, rfl⟩
  refine j_iconst X (v := (nI 0)) (q := 1) d_H_hasAbortedRead_0 (by decide +kernel) rfl ?_
  refine j_istore_n X (j := 1) (q := 2) d_H_hasAbortedRead_1 rfl (Nat.le_of_ble_eq_true rfl) rfl ?_
  exact K 61 0 (by omega) (by omega) (fun j hj => by omega)
set_option maxRecDepth 100000 in
set_option maxHeartbeats 4000000 in
theorem c_H_hasUnfinishedRead {l : Launch} {Θ : jxT} (hI : jxI Θ) (hC : ∀ g r, r < jrwH g → Θ.2.2.2 g r) {h : jH} {σ : jxM} (hw : jHw h) (hs : jHs h σ)  : jxMet l y_H_hasUnfinishedRead b_H_hasUnfinishedRead 2 (some FieldType.boolean) (jrm 3) Θ [.inr (1, 0)] σ (jan (jB (jd (∃ r, r < hyR h ∧ jun h r))) σ) := by
  refine jxMet.of (own := "HistoryJudge$History") hI (by decide) rfl (Nat.le_of_ble_eq_true rfl) (fun Γ X => ?_)
  show jxW Γ Θ (jan (jB (jd (∃ r, r < hyR h ∧ jun h r))) σ) 0 [some (.inr (1, 0)), none] [] σ
  have bV := jHw_V hw
  have bR := jHw_R hw
  have K : ∀ (N : Nat) (r : Nat), hyR h - r < N → r ≤ hyR h → (∀ j, j < r → ¬ jun h j) → jxW Γ Θ (jan (jB (jd (∃ r, r < hyR h ∧ jun h r))) σ) 2 [some (.inr (1, 0)), some (.inl (nI r))] [] σ := by
    intro N
    induction N with
    | zero => intro r hn; exact absurd hn (Nat.not_lt_zero _)
    | succ N ih =>
      intro r hn hr hno
      refine j_iload_n X (q := 3) d_H_hasUnfinishedRead_2 rfl rfl ?_
      refine j_aload_n X (q := 4) d_H_hasUnfinishedRead_3 rfl rfl ?_
      refine j_getI X (C := jR2) (T := jT2) (N := 12) (ci := 2) (j := 8) (q := 7) d_H_hasUnfinishedRead_4 ju2 rfl rfl rfl (by decide) wl92 rfl (hC _ _ (by decide)) rfl (jHs_R hs) ?_
      refine j_ncmp_ge X (tgt := 47) (q := 10) d_H_hasUnfinishedRead_7 (by decide) rfl (by omega) (by omega) (fun h7 => ?_) (fun h7 => ?_)
      · have _b7 := True.intro
        refine j_iconst X (v := (nI 0)) (q := 48) d_H_hasUnfinishedRead_47 (by decide +kernel) rfl ?_
        refine j_zret X d_H_hasUnfinishedRead_48 (by decide +kernel) ?_
        exact ⟨by rw [jd_no.mpr (fun ⟨j, hj, q⟩ => hno j (by omega) q)]; rfl, rfl⟩
      · have _b7 := True.intro
        refine j_aload_n X (q := 11) d_H_hasUnfinishedRead_10 rfl rfl ?_
        refine j_iload_n X (q := 12) d_H_hasUnfinishedRead_11 rfl rfl ?_
        refine j_callV X (n := 1) (C := jR2) (T := jT2) (N := 12) d_H_hasUnfinishedRead_12 (c_H_isJudgedRead hI hC hw hs (r := r) (by omega)) rfl rfl (hC _ _ (by decide)) wl256 wl257 wl6 wl37 wl258 (by decide +kernel) ⟨rfl, rfl⟩ (by decide) rfl rfl (Nat.le_of_ble_eq_true rfl) rfl (q := 15) rfl (fun r12 τ12 e12 => ?_)
        obtain ⟨rfl, rfl⟩ := e12
        refine j_bif_eq X (tgt := 41) (q := 18) d_H_hasUnfinishedRead_15 (by decide) rfl (fun h15 => ?_) (fun h15 => ?_)
        · have _b15 := True.intro
          refine j_iinc X (q := 44) d_H_hasUnfinishedRead_41 rfl (j_inc1 _) rfl ?_
          refine j_goto X (tgt := 2) d_H_hasUnfinishedRead_44 (by decide) ?_
          exact ih (r + 1) (by omega) (by omega) (fun j hj => by
            by_cases q : j = r
            · rw [q]; exact (fun q => by obtain ⟨q1, v, q2, -⟩ := q; rw [q1, q2] at h15; cases h15)
            · exact hno j (by omega))
        · have _b15 := True.intro
          obtain ⟨v, hv⟩ : ∃ v, hyrv h r = some v := by
            rw [Bool.and_eq_true] at h15
            exact Option.isSome_iff_exists.mp h15.2
          have hc : hyS h (hyrd h r) = 2 := by
            rw [Bool.and_eq_true, decide_eq_true_eq] at h15
            exact h15.1
          have b0 := (jHw_rv hw (show r < hyR h by omega) hv).1
          have b3 := jHw_W hw b0
          have er : σ 7 0 r = nI v := by rw [jHs_rv hs (show r < hyR h by omega), hv]; rfl
          refine j_aload_n X (q := 19) d_H_hasUnfinishedRead_18 rfl rfl ?_
          refine j_iload_n X (q := 20) d_H_hasUnfinishedRead_19 rfl rfl ?_
          refine j_callV X (n := 1) (C := jR2) (T := jT2) (N := 12) d_H_hasUnfinishedRead_20 (c_H_isOfAnotherCommitted hI hC hw hs (r := r) (by omega) hv) rfl rfl (hC _ _ (by decide)) wl264 wl265 wl7 wl37 wl266 (by decide +kernel) ⟨rfl, rfl⟩ (by decide) rfl rfl (Nat.le_of_ble_eq_true rfl) rfl (q := 23) rfl (fun r20 τ20 e20 => ?_)
          obtain ⟨rfl, rfl⟩ := e20
          refine j_bif_eq X (tgt := 41) (q := 26) d_H_hasUnfinishedRead_23 (by decide) rfl (fun h23 => ?_) (fun h23 => ?_)
          · have _b23 := True.intro
            refine j_iinc X (q := 44) d_H_hasUnfinishedRead_41 rfl (j_inc1 _) rfl ?_
            refine j_goto X (tgt := 2) d_H_hasUnfinishedRead_44 (by decide) ?_
            exact ih (r + 1) (by omega) (by omega) (fun j hj => by
              by_cases q : j = r
              · rw [q]; exact (fun q => by obtain ⟨q1, w, q2, q3, q4, -⟩ := q; rw [hv] at q2; cases q2; rw [decide_eq_true q3, decide_eq_true q4] at h23; cases h23)
              · exact hno j (by omega))
          · have _b23 := True.intro
            refine j_aload_n X (q := 27) d_H_hasUnfinishedRead_26 rfl rfl ?_
            refine j_aload_n X (q := 28) d_H_hasUnfinishedRead_27 rfl rfl ?_
            refine j_getR X (C := jR2) (T := jT2) (N := 12) (ci := 2) (j := 6) (q := 31) d_H_hasUnfinishedRead_28 ju2 rfl rfl rfl (by decide) wl87 rfl (hC _ _ (by decide)) rfl ?_
            refine j_iload_n X (q := 32) d_H_hasUnfinishedRead_31 rfl rfl ?_
            refine j_iald X (q := 33) d_H_hasUnfinishedRead_32 rfl (by decide) rfl (by omega) (hC _ _ (by decide)) rfl er ?_
            refine j_callV X (n := 1) (C := jR2) (T := jT2) (N := 12) d_H_hasUnfinishedRead_33 (c_H_isFinal hI hC hw hs b0) rfl rfl (hC _ _ (by decide)) wl267 wl268 wl269 wl37 wl270 (by decide +kernel) ⟨rfl, rfl⟩ (by decide) rfl rfl (Nat.le_of_ble_eq_true rfl) rfl (q := 36) rfl (fun r33 τ33 e33 => ?_)
            obtain ⟨rfl, rfl⟩ := e33
            refine j_bif_ne X (tgt := 41) (q := 39) d_H_hasUnfinishedRead_36 (by decide) rfl (fun h36 => ?_) (fun h36 => ?_)
            · have _b36 := True.intro
              refine j_iinc X (q := 44) d_H_hasUnfinishedRead_41 rfl (j_inc1 _) rfl ?_
              refine j_goto X (tgt := 2) d_H_hasUnfinishedRead_44 (by decide) ?_
              exact ih (r + 1) (by omega) (by omega) (fun j hj => by
                by_cases q : j = r
                · rw [q]; exact (fun q => by obtain ⟨q1, w, q2, q3, q4, q5⟩ := q; rw [hv] at q2; cases q2; exact q5 (by simpa using h36))
                · exact hno j (by omega))
            · have _b36 := True.intro
              refine j_iconst X (v := (nI 1)) (q := 40) d_H_hasUnfinishedRead_39 (by decide +kernel) rfl ?_
              refine j_zret X d_H_hasUnfinishedRead_40 (by decide +kernel) ?_
              rw [Bool.and_eq_true, decide_eq_true_eq, decide_eq_true_eq] at h23
              exact ⟨by rw [jd_iff.mpr ⟨r, by omega, hc, v, hv, h23.1, h23.2, by simpa using h36⟩]; rfl, rfl⟩
  refine j_iconst X (v := (nI 0)) (q := 1) d_H_hasUnfinishedRead_0 (by decide +kernel) rfl ?_
  refine j_istore_n X (j := 1) (q := 2) d_H_hasUnfinishedRead_1 rfl (Nat.le_of_ble_eq_true rfl) rfl ?_
  exact K 61 0 (by omega) (by omega) (fun j hj => by omega)
