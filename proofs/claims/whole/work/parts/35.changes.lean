/-! The history: what changes it. -/
/-- the first t rows of the latest are emptied -/
def jft (σ : jxM) (t : Nat) : jxM := fun g r j => if g = 10 ∧ r < t ∧ j < 6 then -1 else σ g r j
theorem jft_0 (σ : jxM) : jft σ 0 = σ := by funext a b c; simp [jft]
theorem jft_succ (σ : jxM) (t : Nat) : jfl (jft σ t) 10 t 6 (-1) = jft σ (t + 1) := by
  funext a b c
  unfold jfl jft
  by_cases h1 : a = 10
  · by_cases h2 : b = t
    · subst h1; subst h2
      by_cases h3 : c < 6 <;> simp [h3]
    · have : (b < t + 1) = (b < t) := by simp; omega
      simp [h1, h2, this]
  · simp [h1]
set_option maxRecDepth 100000 in
set_option maxHeartbeats 4000000 in
theorem c_H_reset {l : Launch} {Θ : jxT} (hI : jxI Θ) (hC : ∀ g r, r < jrwH g → Θ.2.2.2 g r) (σ : jxM) : jxMet l y_H_reset b_H_reset 2 none (jrm 2) Θ [.inr (1, 0)] σ (fun r σ' => r = none ∧ jHs jh0 σ' ∧ ∀ g, 14 ≤ g → σ' g = σ g) := by
  refine jxMet.of (own := "HistoryJudge$History") hI (by decide) rfl (Nat.le_of_ble_eq_true rfl) (fun Γ X => ?_)
  show jxW Γ Θ (fun r σ' => r = none ∧ jHs jh0 σ' ∧ ∀ g, 14 ≤ g → σ' g = σ g) 0 [some (.inr (1, 0)), none] [] σ
  have K : ∀ (N : Nat) (t : Nat), 9 - t < N → t ≤ 8 → jxW Γ Θ (fun r σ' => r = none ∧ jHs jh0 σ' ∧ ∀ g, 14 ≤ g → σ' g = σ g) 28 [some (.inr (1, 0)), some (.inl (nI t))] [] (jft (jfl (jfl (jxs (jxs σ 1 0 3 (nI 0)) 1 0 8 (nI 0)) 2 0 8 (nI 0)) 13 0 6 (nI 0)) t) := by
    intro N
    induction N with
    | zero => intro t hn; exact absurd hn (Nat.not_lt_zero _)
    | succ N ih =>
      intro t hn ht
      refine j_iload_n X (q := 29) d_H_reset_28 rfl rfl ?_
      refine j_bipush X (v := (nI 8)) (q := 31) d_H_reset_29 (by decide +kernel) rfl ?_
      refine j_ncmp_ge X (tgt := 50) (q := 34) d_H_reset_31 (by decide) rfl (by omega) (by omega) (fun h31 => ?_) (fun h31 => ?_)
      · have _b31 := True.intro
        refine j_vret X d_H_reset_50 ?_
        have e : t = 8 := by omega
        subst e
        refine ⟨rfl, jHs_0 (σ := σ) rfl, fun g hg => ?_⟩
        funext r j
        have h1 : ¬ g = 10 := by omega
        have h2 : ¬ g = 13 := by omega
        have h3 : ¬ g = 2 := by omega
        have h4 : ¬ g = 1 := by omega
        simp [jft, jfl, jxs_at, h1, h2, h3, h4]
      · have _b31 := True.intro
        refine j_aload_n X (q := 35) d_H_reset_34 rfl rfl ?_
        refine j_getR X (C := jR2) (T := jT2) (N := 12) (ci := 2) (j := 9) (q := 38) d_H_reset_35 ju2 rfl rfl rfl (by decide) wl96 rfl (hC _ _ (by decide)) rfl ?_
        refine j_iload_n X (q := 39) d_H_reset_38 rfl rfl ?_
        refine j_aald X (q := 40) d_H_reset_39 rfl (by decide) rfl (by omega) (hC _ _ (by decide)) rfl ?_
        refine j_iconst X (v := (-1)) (q := 41) d_H_reset_40 (by decide +kernel) rfl ?_
        refine j_callS X (n := 2) d_H_reset_41 (c_A_fill hI (g := 10) (r := t) (n := 6) rfl (by decide) (hC _ _ (by show _ < 8; omega)) (-1) _) wl70 wl71 wl38 wl72 (by decide +kernel) ⟨rfl, rfl⟩ (by decide) rfl rfl (Nat.le_of_ble_eq_true rfl) rfl (q := 44) rfl (fun r41 τ41 e41 => ?_)
        obtain ⟨rfl, rfl⟩ := e41
        refine j_iinc X (q := 47) d_H_reset_44 rfl (j_inc1 _) rfl ?_
        refine j_goto X (tgt := 28) d_H_reset_47 (by decide) ?_
        refine jxW.cast rfl rfl (jft_succ _ t) ?_
        exact ih (t + 1) (by omega) (by omega)
  refine j_aload_n X (q := 1) d_H_reset_0 rfl rfl ?_
  refine j_iconst X (v := (nI 0)) (q := 2) d_H_reset_1 (by decide +kernel) rfl ?_
  refine j_putI X (C := jR2) (T := jT2) (N := 12) (ci := 2) (j := 3) (q := 5) d_H_reset_2 ju2 rfl rfl jt2 jt2_ok jn2 rfl (by decide) wl79 rfl (hC _ _ (by decide)) rfl rfl (ty := .int) rfl rfl rfl ?_
  refine j_aload_n X (q := 6) d_H_reset_5 rfl rfl ?_
  refine j_iconst X (v := (nI 0)) (q := 7) d_H_reset_6 (by decide +kernel) rfl ?_
  refine j_putI X (C := jR2) (T := jT2) (N := 12) (ci := 2) (j := 8) (q := 10) d_H_reset_7 ju2 rfl rfl jt2 jt2_ok jn2 rfl (by decide) wl92 rfl (hC _ _ (by decide)) rfl rfl (ty := .int) rfl rfl rfl ?_
  refine j_aload_n X (q := 11) d_H_reset_10 rfl rfl ?_
  refine j_getR X (C := jR2) (T := jT2) (N := 12) (ci := 2) (j := 0) (q := 14) d_H_reset_11 ju2 rfl rfl rfl (by decide) wl73 rfl (hC _ _ (by decide)) rfl ?_
  refine j_iconst X (v := (nI 0)) (q := 15) d_H_reset_14 (by decide +kernel) rfl ?_
  refine j_callS X (n := 2) d_H_reset_15 (c_A_fill hI (g := 2) (r := 0) (n := 8) rfl (by decide) (hC _ _ (by decide)) (nI 0) _) wl70 wl71 wl38 wl72 (by decide +kernel) ⟨rfl, rfl⟩ (by decide) rfl rfl (Nat.le_of_ble_eq_true rfl) rfl (q := 18) rfl (fun r15 τ15 e15 => ?_)
  obtain ⟨rfl, rfl⟩ := e15
  refine j_aload_n X (q := 19) d_H_reset_18 rfl rfl ?_
  refine j_getR X (C := jR2) (T := jT2) (N := 12) (ci := 2) (j := 11) (q := 22) d_H_reset_19 ju2 rfl rfl rfl (by decide) wl100 rfl (hC _ _ (by decide)) rfl ?_
  refine j_iconst X (v := (nI 0)) (q := 23) d_H_reset_22 (by decide +kernel) rfl ?_
  refine j_callS X (n := 2) d_H_reset_23 (c_A_fill hI (g := 13) (r := 0) (n := 6) rfl (by decide) (hC _ _ (by decide)) (nI 0) _) wl70 wl71 wl38 wl72 (by decide +kernel) ⟨rfl, rfl⟩ (by decide) rfl rfl (Nat.le_of_ble_eq_true rfl) rfl (q := 26) rfl (fun r23 τ23 e23 => ?_)
  obtain ⟨rfl, rfl⟩ := e23
  refine j_iconst X (v := (nI 0)) (q := 27) d_H_reset_26 (by decide +kernel) rfl ?_
  refine j_istore_n X (j := 1) (q := 28) d_H_reset_27 rfl (Nat.le_of_ble_eq_true rfl) rfl ?_
  refine jxW.cast rfl rfl (jft_0 _).symm ?_
  exact K 10 0 (by omega) (by omega)
set_option maxRecDepth 100000 in
set_option maxHeartbeats 4000000 in
theorem c_H_addVersion {l : Launch} {Θ : jxT} (hI : jxI Θ) (hC : ∀ g r, r < jrwH g → Θ.2.2.2 g r) {h : jH} {σ : jxM} (hw : jHw h) (hs : jHs h σ) {t x : Nat} (ht : t < 8) (hx : x < 6) (hv : hyV h < 40) : jxMet l y_H_addVersion b_H_addVersion 4 (some FieldType.int) (jrm 1) Θ [.inr (1, 0), .inl (nI t), .inl (nI x)] σ (fun r σ' => r = some (.inl (nI (hyV h))) ∧ jHs (jaddV h t x) σ' ∧ ∀ g, 14 ≤ g → σ' g = σ g) := by
  refine jxMet.of (own := "HistoryJudge$History") hI (by decide) rfl (Nat.le_of_ble_eq_true rfl) (fun Γ X => ?_)
  show jxW Γ Θ (fun r σ' => r = some (.inl (nI (hyV h))) ∧ jHs (jaddV h t x) σ' ∧ ∀ g, 14 ≤ g → σ' g = σ g) 0 [some (.inr (1, 0)), some (.inl (nI t)), some (.inl (nI x)), none] [] σ
  refine j_aload_n X (q := 1) d_H_addVersion_0 rfl rfl ?_
  refine j_getI X (C := jR2) (T := jT2) (N := 12) (ci := 2) (j := 3) (q := 4) d_H_addVersion_1 ju2 rfl rfl rfl (by decide) wl79 rfl (hC _ _ (by decide)) rfl (jHs_V hs) ?_
  refine j_istore_n X (j := 3) (q := 5) d_H_addVersion_4 rfl (Nat.le_of_ble_eq_true rfl) rfl ?_
  refine j_aload_n X (q := 6) d_H_addVersion_5 rfl rfl ?_
  refine j_getR X (C := jR2) (T := jT2) (N := 12) (ci := 2) (j := 1) (q := 9) d_H_addVersion_6 ju2 rfl rfl rfl (by decide) wl75 rfl (hC _ _ (by decide)) rfl ?_
  refine j_iload_n X (q := 10) d_H_addVersion_9 rfl rfl ?_
  refine j_iload_n X (q := 11) d_H_addVersion_10 rfl rfl ?_
  refine j_iast X (q := 12) d_H_addVersion_11 rfl (by decide) rfl (by omega) (hC _ _ (by decide)) rfl ?_
  refine j_aload_n X (q := 13) d_H_addVersion_12 rfl rfl ?_
  refine j_getR X (C := jR2) (T := jT2) (N := 12) (ci := 2) (j := 2) (q := 16) d_H_addVersion_13 ju2 rfl rfl rfl (by decide) wl78 rfl (hC _ _ (by decide)) rfl ?_
  refine j_iload_n X (q := 17) d_H_addVersion_16 rfl rfl ?_
  refine j_iload_n X (q := 18) d_H_addVersion_17 rfl rfl ?_
  refine j_iast X (q := 19) d_H_addVersion_18 rfl (by decide) rfl (by omega) (hC _ _ (by decide)) rfl ?_
  refine j_aload_n X (q := 20) d_H_addVersion_19 rfl rfl ?_
  refine j_getR X (C := jR2) (T := jT2) (N := 12) (ci := 2) (j := 9) (q := 23) d_H_addVersion_20 ju2 rfl rfl rfl (by decide) wl96 rfl (hC _ _ (by decide)) rfl ?_
  refine j_iload_n X (q := 24) d_H_addVersion_23 rfl rfl ?_
  refine j_aald X (q := 25) d_H_addVersion_24 rfl (by decide) rfl (by omega) (hC _ _ (by decide)) rfl ?_
  refine j_iload_n X (q := 26) d_H_addVersion_25 rfl rfl ?_
  refine j_iload_n X (q := 27) d_H_addVersion_26 rfl rfl ?_
  refine j_iast X (q := 28) d_H_addVersion_27 rfl (by decide) rfl (by omega) (hC _ _ (by show _ < 8; omega)) rfl ?_
  refine j_aload_n X (q := 29) d_H_addVersion_28 rfl rfl ?_
  refine j_getR X (C := jR2) (T := jT2) (N := 12) (ci := 2) (j := 0) (q := 32) d_H_addVersion_29 ju2 rfl rfl rfl (by decide) wl73 rfl (hC _ _ (by decide)) rfl ?_
  refine j_iload_n X (q := 33) d_H_addVersion_32 rfl rfl ?_
  refine j_iconst X (v := (nI 1)) (q := 34) d_H_addVersion_33 (by decide +kernel) rfl ?_
  refine j_iast X (q := 35) d_H_addVersion_34 rfl (by decide) rfl (by omega) (hC _ _ (by decide)) rfl ?_
  refine j_aload_n X (q := 36) d_H_addVersion_35 rfl rfl ?_
  refine j_dup X (q := 37) d_H_addVersion_36 rfl ?_
  refine j_getI X (C := jR2) (T := jT2) (N := 12) (ci := 2) (j := 3) (q := 40) d_H_addVersion_37 ju2 rfl rfl rfl (by decide) wl79 rfl (hC _ _ (by decide)) rfl (show _ = nI (hyV h) by (simp [jxs_at]; exact jHs_V hs)) ?_
  refine j_iconst X (v := (nI 1)) (q := 41) d_H_addVersion_40 (by decide +kernel) rfl ?_
  refine j_iadd X (q := 42) d_H_addVersion_41 rfl ?_
  refine j_putI X (C := jR2) (T := jT2) (N := 12) (ci := 2) (j := 3) (q := 45) d_H_addVersion_42 ju2 rfl rfl jt2 jt2_ok jn2 rfl (by decide) wl79 rfl (hC _ _ (by decide)) rfl rfl (ty := .int) rfl rfl rfl ?_
  refine j_iload_n X (q := 46) d_H_addVersion_45 rfl rfl ?_
  refine j_iret X d_H_addVersion_46 ?_
  exact ⟨rfl, by rw [nI_add]; exact jHs_addV hs, fun g hg => by simp only [jxs_g _ _ _ _ _ (show g ≠ 1 by omega), jxs_g _ _ _ _ _ (show g ≠ 2 by omega), jxs_g _ _ _ _ _ (show g ≠ 3 by omega), jxs_g _ _ _ _ _ (show g ≠ 4 by omega), jxs_g _ _ _ _ _ (show g ≠ 5 by omega), jxs_g _ _ _ _ _ (show g ≠ 6 by omega), jxs_g _ _ _ _ _ (show g ≠ 7 by omega), jxs_g _ _ _ _ _ (show g ≠ 8 by omega), jxs_g _ _ _ _ _ (show g ≠ 10 by omega)]⟩
set_option maxRecDepth 100000 in
set_option maxHeartbeats 4000000 in
theorem c_H_addRead {l : Launch} {Θ : jxT} (hI : jxI Θ) (hC : ∀ g r, r < jrwH g → Θ.2.2.2 g r) {h : jH} {σ : jxM} (hw : jHw h) (hs : jHs h σ) {t x : Nat} {o : Option Nat} (ht : t < 8) (hx : x < 6) (hr : hyR h < 60) : jxMet l y_H_addRead b_H_addRead 4 (some FieldType.int) (jrm 1) Θ [.inr (1, 0), .inl (nI t), .inl (nI x), .inl (vI o)] σ (fun r σ' => r = some (.inl (nI (hyR h + 1))) ∧ jHs (jaddR h t x o) σ' ∧ ∀ g, 14 ≤ g → σ' g = σ g) := by
  refine jxMet.of (own := "HistoryJudge$History") hI (by decide) rfl (Nat.le_of_ble_eq_true rfl) (fun Γ X => ?_)
  show jxW Γ Θ (fun r σ' => r = some (.inl (nI (hyR h + 1))) ∧ jHs (jaddR h t x o) σ' ∧ ∀ g, 14 ≤ g → σ' g = σ g) 0 [some (.inr (1, 0)), some (.inl (nI t)), some (.inl (nI x)), some (.inl (vI o))] [] σ
  refine j_aload_n X (q := 1) d_H_addRead_0 rfl rfl ?_
  refine j_getR X (C := jR2) (T := jT2) (N := 12) (ci := 2) (j := 4) (q := 4) d_H_addRead_1 ju2 rfl rfl rfl (by decide) wl81 rfl (hC _ _ (by decide)) rfl ?_
  refine j_aload_n X (q := 5) d_H_addRead_4 rfl rfl ?_
  refine j_getI X (C := jR2) (T := jT2) (N := 12) (ci := 2) (j := 8) (q := 8) d_H_addRead_5 ju2 rfl rfl rfl (by decide) wl92 rfl (hC _ _ (by decide)) rfl (jHs_R hs) ?_
  refine j_iload_n X (q := 9) d_H_addRead_8 rfl rfl ?_
  refine j_iast X (q := 10) d_H_addRead_9 rfl (by decide) rfl (by omega) (hC _ _ (by decide)) rfl ?_
  refine j_aload_n X (q := 11) d_H_addRead_10 rfl rfl ?_
  refine j_getR X (C := jR2) (T := jT2) (N := 12) (ci := 2) (j := 5) (q := 14) d_H_addRead_11 ju2 rfl rfl rfl (by decide) wl84 rfl (hC _ _ (by decide)) rfl ?_
  refine j_aload_n X (q := 15) d_H_addRead_14 rfl rfl ?_
  refine j_getI X (C := jR2) (T := jT2) (N := 12) (ci := 2) (j := 8) (q := 18) d_H_addRead_15 ju2 rfl rfl rfl (by decide) wl92 rfl (hC _ _ (by decide)) rfl (show _ = nI (hyR h) by (simp [jxs_at]; exact jHs_R hs)) ?_
  refine j_iload_n X (q := 19) d_H_addRead_18 rfl rfl ?_
  refine j_iast X (q := 20) d_H_addRead_19 rfl (by decide) rfl (by omega) (hC _ _ (by decide)) rfl ?_
  refine j_aload_n X (q := 21) d_H_addRead_20 rfl rfl ?_
  refine j_getR X (C := jR2) (T := jT2) (N := 12) (ci := 2) (j := 6) (q := 24) d_H_addRead_21 ju2 rfl rfl rfl (by decide) wl87 rfl (hC _ _ (by decide)) rfl ?_
  refine j_aload_n X (q := 25) d_H_addRead_24 rfl rfl ?_
  refine j_getI X (C := jR2) (T := jT2) (N := 12) (ci := 2) (j := 8) (q := 28) d_H_addRead_25 ju2 rfl rfl rfl (by decide) wl92 rfl (hC _ _ (by decide)) rfl (show _ = nI (hyR h) by (simp [jxs_at]; exact jHs_R hs)) ?_
  refine j_iload_n X (q := 29) d_H_addRead_28 rfl rfl ?_
  refine j_iast X (q := 30) d_H_addRead_29 rfl (by decide) rfl (by omega) (hC _ _ (by decide)) rfl ?_
  refine j_aload_n X (q := 31) d_H_addRead_30 rfl rfl ?_
  refine j_getR X (C := jR2) (T := jT2) (N := 12) (ci := 2) (j := 7) (q := 34) d_H_addRead_31 ju2 rfl rfl rfl (by decide) wl90 rfl (hC _ _ (by decide)) rfl ?_
  refine j_aload_n X (q := 35) d_H_addRead_34 rfl rfl ?_
  refine j_getI X (C := jR2) (T := jT2) (N := 12) (ci := 2) (j := 8) (q := 38) d_H_addRead_35 ju2 rfl rfl rfl (by decide) wl92 rfl (hC _ _ (by decide)) rfl (show _ = nI (hyR h) by (simp [jxs_at]; exact jHs_R hs)) ?_
  refine j_aload_n X (q := 39) d_H_addRead_38 rfl rfl ?_
  refine j_getR X (C := jR2) (T := jT2) (N := 12) (ci := 2) (j := 9) (q := 42) d_H_addRead_39 ju2 rfl rfl rfl (by decide) wl96 rfl (hC _ _ (by decide)) rfl ?_
  refine j_iload_n X (q := 43) d_H_addRead_42 rfl rfl ?_
  refine j_aald X (q := 44) d_H_addRead_43 rfl (by decide) rfl (by omega) (hC _ _ (by decide)) rfl ?_
  refine j_iload_n X (q := 45) d_H_addRead_44 rfl rfl ?_
  refine j_iald X (q := 46) d_H_addRead_45 rfl (by decide) rfl (by omega) (hC _ _ (by show _ < 8; omega)) rfl (show _ = vI (hylt h t x) by (simp [jxs_at]; exact jHs_lt hs ht hx)) ?_
  refine j_iast X (q := 47) d_H_addRead_46 rfl (by decide) rfl (by omega) (hC _ _ (by decide)) rfl ?_
  refine j_aload_n X (q := 48) d_H_addRead_47 rfl rfl ?_
  refine j_getR X (C := jR2) (T := jT2) (N := 12) (ci := 2) (j := 0) (q := 51) d_H_addRead_48 ju2 rfl rfl rfl (by decide) wl73 rfl (hC _ _ (by decide)) rfl ?_
  refine j_iload_n X (q := 52) d_H_addRead_51 rfl rfl ?_
  refine j_iconst X (v := (nI 1)) (q := 53) d_H_addRead_52 (by decide +kernel) rfl ?_
  refine j_iast X (q := 54) d_H_addRead_53 rfl (by decide) rfl (by omega) (hC _ _ (by decide)) rfl ?_
  refine j_aload_n X (q := 55) d_H_addRead_54 rfl rfl ?_
  refine j_dup X (q := 56) d_H_addRead_55 rfl ?_
  refine j_getI X (C := jR2) (T := jT2) (N := 12) (ci := 2) (j := 8) (q := 59) d_H_addRead_56 ju2 rfl rfl rfl (by decide) wl92 rfl (hC _ _ (by decide)) rfl (show _ = nI (hyR h) by (simp [jxs_at]; exact jHs_R hs)) ?_
  refine j_iconst X (v := (nI 1)) (q := 60) d_H_addRead_59 (by decide +kernel) rfl ?_
  refine j_iadd X (q := 61) d_H_addRead_60 rfl ?_
  refine j_putI X (C := jR2) (T := jT2) (N := 12) (ci := 2) (j := 8) (q := 64) d_H_addRead_61 ju2 rfl rfl jt2 jt2_ok jn2 rfl (by decide) wl92 rfl (hC _ _ (by decide)) rfl rfl (ty := .int) rfl rfl rfl ?_
  refine j_aload_n X (q := 65) d_H_addRead_64 rfl rfl ?_
  refine j_getI X (C := jR2) (T := jT2) (N := 12) (ci := 2) (j := 8) (q := 68) d_H_addRead_65 ju2 rfl rfl rfl (by decide) wl92 rfl (hC _ _ (by decide)) rfl (show _ = nI (hyR h + 1) by (simp [jxs_at, nI_add])) ?_
  refine j_iret X d_H_addRead_68 ?_
  exact ⟨rfl, by rw [nI_add]; exact jHs_addR hs, fun g hg => by simp only [jxs_g _ _ _ _ _ (show g ≠ 1 by omega), jxs_g _ _ _ _ _ (show g ≠ 2 by omega), jxs_g _ _ _ _ _ (show g ≠ 3 by omega), jxs_g _ _ _ _ _ (show g ≠ 4 by omega), jxs_g _ _ _ _ _ (show g ≠ 5 by omega), jxs_g _ _ _ _ _ (show g ≠ 6 by omega), jxs_g _ _ _ _ _ (show g ≠ 7 by omega), jxs_g _ _ _ _ _ (show g ≠ 8 by omega), jxs_g _ _ _ _ _ (show g ≠ 10 by omega)]⟩
set_option maxRecDepth 100000 in
set_option maxHeartbeats 4000000 in
theorem c_H_commit {l : Launch} {Θ : jxT} (hI : jxI Θ) (hC : ∀ g r, r < jrwH g → Θ.2.2.2 g r) {h : jH} {σ : jxM} (hw : jHw h) (hs : jHs h σ) {t : Nat} (ht : t < 8) (hon : ∀ x, x < 6 → (hylt h t x).isSome = true → hyon h x < 8) : jxMet l y_H_commit b_H_commit 3 none (jrm 1) Θ [.inr (1, 0), .inl (nI t)] σ (fun r σ' => r = none ∧ jHs (jcomP h t 6) σ' ∧ ∀ g, 14 ≤ g → σ' g = σ g) := by
  refine jxMet.of (own := "HistoryJudge$History") hI (by decide) rfl (Nat.le_of_ble_eq_true rfl) (fun Γ X => ?_)
  show jxW Γ Θ (fun r σ' => r = none ∧ jHs (jcomP h t 6) σ' ∧ ∀ g, 14 ≤ g → σ' g = σ g) 0 [some (.inr (1, 0)), some (.inl (nI t)), none] [] σ
  have bV := jHw_V hw
  have K : ∀ (N : Nat) (k : Nat) (σ1 : jxM), 6 - k < N → k ≤ 6 → jHs (jcomP h t k) σ1 → (∀ g, 14 ≤ g → σ1 g = σ g) → jxW Γ Θ (fun r σ' => r = none ∧ jHs (jcomP h t 6) σ' ∧ ∀ g, 14 ≤ g → σ' g = σ g) 9 [some (.inr (1, 0)), some (.inl (nI t)), some (.inl (nI k))] [] σ1 := by
    intro N
    induction N with
    | zero => intro k σ1 hn; exact absurd hn (Nat.not_lt_zero _)
    | succ N ih =>
      intro k σ1 hn hk hs1 hf1
      refine j_iload_n X (q := 10) d_H_commit_9 rfl rfl ?_
      refine j_bipush X (v := (nI 6)) (q := 12) d_H_commit_10 (by decide +kernel) rfl ?_
      refine j_ncmp_ge X (tgt := 75) (q := 15) d_H_commit_12 (by decide) rfl (by omega) (by omega) (fun h12 => ?_) (fun h12 => ?_)
      · have _b12 := True.intro
        refine j_vret X d_H_commit_75 ?_
        have e : k = 6 := by omega
        subst e
        exact ⟨rfl, hs1, hf1⟩
      · have _b12 := True.intro
        have onk : hyon (jcomP h t k) k = hyon h k := by
          show (if k < k ∧ _ then _ else _) = _
          simp
        have bm := vI_m1 (hylt h t k) (fun v hv => by have := (jHw_lt hw ht (show k < 6 by omega) hv).1; omega)
        refine j_aload_n X (q := 16) d_H_commit_15 rfl rfl ?_
        refine j_getR X (C := jR2) (T := jT2) (N := 12) (ci := 2) (j := 9) (q := 19) d_H_commit_16 ju2 rfl rfl rfl (by decide) wl96 rfl (hC _ _ (by decide)) rfl ?_
        refine j_iload_n X (q := 20) d_H_commit_19 rfl rfl ?_
        refine j_aald X (q := 21) d_H_commit_20 rfl (by decide) rfl (by omega) (hC _ _ (by decide)) rfl ?_
        refine j_iload_n X (q := 22) d_H_commit_21 rfl rfl ?_
        refine j_iald X (q := 23) d_H_commit_22 rfl (by decide) rfl (by omega) (hC _ _ (by show _ < 8; omega)) rfl (jHs_lt hs1 ht (by omega)) ?_
        refine j_iconst X (v := (-1)) (q := 24) d_H_commit_23 (by decide +kernel) rfl ?_
        refine j_icmp_eq X (tgt := 69) (q := 27) d_H_commit_24 (by decide) rfl (fun h24 => ?_) (fun h24 => ?_)
        · have _b24 := True.intro
          have en : hylt h t k = none := bm.mp h24
          refine j_iinc X (q := 72) d_H_commit_69 rfl (j_inc1 _) rfl ?_
          refine j_goto X (tgt := 9) d_H_commit_72 (by decide) ?_
          exact ih (k + 1) σ1 (by omega) (by omega) (by rw [jcomP_no en]; exact hs1) hf1
        · have _b24 := True.intro
          obtain ⟨v, ev⟩ : ∃ v, hylt h t k = some v := by
            cases e : hylt h t k with
            | some v => exact ⟨v, rfl⟩
            | none => exact absurd (bm.mpr e) h24
          have b8 := hon k (by omega) (by rw [ev]; rfl)
          refine j_aload_n X (q := 28) d_H_commit_27 rfl rfl ?_
          refine j_getR X (C := jR2) (T := jT2) (N := 12) (ci := 2) (j := 11) (q := 31) d_H_commit_28 ju2 rfl rfl rfl (by decide) wl100 rfl (hC _ _ (by decide)) rfl ?_
          refine j_iload_n X (q := 32) d_H_commit_31 rfl rfl ?_
          refine j_iald X (q := 33) d_H_commit_32 rfl (by decide) rfl (by omega) (hC _ _ (by decide)) rfl (show _ = nI (hyon h k) by (rw [← onk]; exact jHs_on hs1 (by omega))) ?_
          refine j_bipush X (v := (nI 8)) (q := 35) d_H_commit_33 (by decide +kernel) rfl ?_
          refine j_ncmp_ge X (tgt := 69) (q := 38) d_H_commit_35 (by decide) rfl (by omega) (by omega) (fun h35 => ?_) (fun h35 => ?_)
          · have _b35 := True.intro
            omega
          · have _b35 := True.intro
            refine j_aload_n X (q := 39) d_H_commit_38 rfl rfl ?_
            refine j_getR X (C := jR2) (T := jT2) (N := 12) (ci := 2) (j := 10) (q := 42) d_H_commit_39 ju2 rfl rfl rfl (by decide) wl97 rfl (hC _ _ (by decide)) rfl ?_
            refine j_iload_n X (q := 43) d_H_commit_42 rfl rfl ?_
            refine j_aald X (q := 44) d_H_commit_43 rfl (by decide) rfl (by omega) (hC _ _ (by decide)) rfl ?_
            refine j_aload_n X (q := 45) d_H_commit_44 rfl rfl ?_
            refine j_getR X (C := jR2) (T := jT2) (N := 12) (ci := 2) (j := 11) (q := 48) d_H_commit_45 ju2 rfl rfl rfl (by decide) wl100 rfl (hC _ _ (by decide)) rfl ?_
            refine j_iload_n X (q := 49) d_H_commit_48 rfl rfl ?_
            refine j_iald X (q := 50) d_H_commit_49 rfl (by decide) rfl (by omega) (hC _ _ (by decide)) rfl (show _ = nI (hyon h k) by (rw [← onk]; exact jHs_on hs1 (by omega))) ?_
            refine j_aload_n X (q := 51) d_H_commit_50 rfl rfl ?_
            refine j_getR X (C := jR2) (T := jT2) (N := 12) (ci := 2) (j := 9) (q := 54) d_H_commit_51 ju2 rfl rfl rfl (by decide) wl96 rfl (hC _ _ (by decide)) rfl ?_
            refine j_iload_n X (q := 55) d_H_commit_54 rfl rfl ?_
            refine j_aald X (q := 56) d_H_commit_55 rfl (by decide) rfl (by omega) (hC _ _ (by decide)) rfl ?_
            refine j_iload_n X (q := 57) d_H_commit_56 rfl rfl ?_
            refine j_iald X (q := 58) d_H_commit_57 rfl (by decide) rfl (by omega) (hC _ _ (by show _ < 8; omega)) rfl (show _ = nI v by (rw [jHs_lt hs1 ht (by omega)]; show vI (hylt h t k) = nI v; rw [ev]; rfl)) ?_
            refine j_iast X (q := 59) d_H_commit_58 rfl (by decide) rfl (by omega) (hC _ _ (by show _ < 6; omega)) rfl ?_
            refine j_aload_n X (q := 60) d_H_commit_59 rfl rfl ?_
            refine j_getR X (C := jR2) (T := jT2) (N := 12) (ci := 2) (j := 11) (q := 63) d_H_commit_60 ju2 rfl rfl rfl (by decide) wl100 rfl (hC _ _ (by decide)) rfl ?_
            refine j_iload_n X (q := 64) d_H_commit_63 rfl rfl ?_
            refine j_dup2 X (q := 65) d_H_commit_64 rfl ?_
            refine j_iald X (q := 66) d_H_commit_65 rfl (by decide) rfl (by omega) (hC _ _ (by decide)) rfl (show _ = nI (hyon h k) by (simp [jxs_at]; rw [← onk]; exact jHs_on hs1 (by omega))) ?_
            refine j_iconst X (v := (nI 1)) (q := 67) d_H_commit_66 (by decide +kernel) rfl ?_
            refine j_iadd X (q := 68) d_H_commit_67 rfl ?_
            refine j_iast X (q := 69) d_H_commit_68 rfl (by decide) rfl (by omega) (hC _ _ (by decide)) rfl ?_
            refine j_iinc X (q := 72) d_H_commit_69 rfl (j_inc1 _) rfl ?_
            refine j_goto X (tgt := 9) d_H_commit_72 (by decide) ?_
            refine ih (k + 1) _ (by omega) (by omega) (by rw [nI_add]; exact jHs_com hs1 ev) (fun g hg => ?_)
            rw [jxs_g _ _ _ _ _ (by omega), jxs_g _ _ _ _ _ (by omega)]
            exact hf1 g hg
  refine j_aload_n X (q := 1) d_H_commit_0 rfl rfl ?_
  refine j_getR X (C := jR2) (T := jT2) (N := 12) (ci := 2) (j := 0) (q := 4) d_H_commit_1 ju2 rfl rfl rfl (by decide) wl73 rfl (hC _ _ (by decide)) rfl ?_
  refine j_iload_n X (q := 5) d_H_commit_4 rfl rfl ?_
  refine j_iconst X (v := (nI 2)) (q := 6) d_H_commit_5 (by decide +kernel) rfl ?_
  refine j_iast X (q := 7) d_H_commit_6 rfl (by decide) rfl (by omega) (hC _ _ (by decide)) rfl ?_
  refine j_iconst X (v := (nI 0)) (q := 8) d_H_commit_7 (by decide +kernel) rfl ?_
  refine j_istore_n X (j := 2) (q := 9) d_H_commit_8 rfl (Nat.le_of_ble_eq_true rfl) rfl ?_
  exact K 7 0 _ (by omega) (by omega) (by rw [jcomP_0]; exact jHs_end hs) (fun g hg => jxs_g _ _ _ _ _ (by omega))
