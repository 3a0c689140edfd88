/-! The reference: what only reads. -/
set_option maxRecDepth 100000 in
set_option maxHeartbeats 4000000 in
theorem c_M_isCommitted {l : Launch} {Θ : jxT} (hI : jxI Θ) (hC : ∀ g r, r < jrwM g → Θ.2.2.2 g r) {h : jH} {v : jV} {σ : jxM} (hw : jHw h) (hv : jVc h v) (hm : jMs h v σ) {t : Nat} (ht : t < 8) : jxMet l y_M_isCommitted b_M_isCommitted 2 (some FieldType.boolean) (jrm 1) Θ [.inr (40, 0), .inl (nI t)] σ (jan (jB (decide (hyS h t = 2))) σ) := by
  refine jxMet.of (own := "HistoryJudgeModel") hI (by decide) rfl (Nat.le_of_ble_eq_true rfl) (fun Γ X => ?_)
  show jxW Γ Θ (jan (jB (decide (hyS h t = 2))) σ) 0 [some (.inr (40, 0)), some (.inl (nI t))] [] σ
  have b1 := jHw_S hw ht
  refine j_aload_n X (q := 1) d_M_isCommitted_0 rfl rfl ?_
  refine j_getR X (C := jR5) (T := jT5) (N := 18) (ci := 5) (j := 1) (q := 4) d_M_isCommitted_1 ju5 rfl rfl rfl (by decide) wl484 rfl (hC _ _ (by decide)) rfl ?_
  refine j_iload_n X (q := 5) d_M_isCommitted_4 rfl rfl ?_
  refine j_iald X (q := 6) d_M_isCommitted_5 rfl (by decide) rfl (by omega) (hC _ _ (by decide)) rfl (jMs_S hm ht) ?_
  refine j_iconst X (v := (nI 2)) (q := 7) d_M_isCommitted_6 (by decide +kernel) rfl ?_
  refine j_ncmp_ne X (tgt := 14) (q := 10) d_M_isCommitted_7 (by decide) rfl (by omega) (by omega) (fun h7 => ?_) (fun h7 => ?_)
  · have _b7 := True.intro
    refine j_iconst X (v := (nI 0)) (q := 15) d_M_isCommitted_14 (by decide +kernel) rfl ?_
    refine j_zret X d_M_isCommitted_15 (by decide +kernel) ?_
    exact ⟨by simp [h7, jB], rfl⟩
  · have _b7 := True.intro
    refine j_iconst X (v := (nI 1)) (q := 11) d_M_isCommitted_10 (by decide +kernel) rfl ?_
    refine j_goto X (tgt := 15) d_M_isCommitted_11 (by decide) ?_
    refine j_zret X d_M_isCommitted_15 (by decide +kernel) ?_
    exact ⟨by simp [h7, jB], rfl⟩
set_option maxRecDepth 100000 in
set_option maxHeartbeats 4000000 in
theorem c_M_isVersion {l : Launch} {Θ : jxT} (hI : jxI Θ) (hC : ∀ g r, r < jrwM g → Θ.2.2.2 g r) {h : jH} {v : jV} {σ : jxM} (hw : jHw h) (hv : jVc h v) (hm : jMs h v σ) {x : Nat} (hx : x < 6) (y : Int32) : jxMet l y_M_isVersion b_M_isVersion 3 (some FieldType.boolean) (jrm 1) Θ [.inr (40, 0), .inl (nI x), .inl y] σ (jan (jB (jhv h x y)) σ) := by
  refine jxMet.of (own := "HistoryJudgeModel") hI (by decide) rfl (Nat.le_of_ble_eq_true rfl) (fun Γ X => ?_)
  show jxW Γ Θ (jan (jB (jhv h x y)) σ) 0 [some (.inr (40, 0)), some (.inl (nI x)), some (.inl y)] [] σ
  have bV := jHw_V hw
  refine j_iload_n X (q := 1) d_M_isVersion_0 rfl rfl ?_
  refine j_iconst X (v := (-1)) (q := 2) d_M_isVersion_1 (by decide +kernel) rfl ?_
  refine j_icmp_eq X (tgt := 27) (q := 5) d_M_isVersion_2 (by decide) rfl (fun h2 => ?_) (fun h2 => ?_)
  · have _b2 := True.intro
    have b : jhv h x y = true := by simp [jhv, h2]
    refine j_iconst X (v := (nI 1)) (q := 28) d_M_isVersion_27 (by decide +kernel) rfl ?_
    refine j_goto X (tgt := 32) d_M_isVersion_28 (by decide) ?_
    refine j_zret X d_M_isVersion_32 (by decide +kernel) ?_
    exact ⟨by rw [b]; rfl, rfl⟩
  · have _b2 := True.intro
    refine j_iload_n X (q := 6) d_M_isVersion_5 rfl rfl ?_
    refine j_if_lt X (tgt := 31) (q := 9) d_M_isVersion_6 (by decide) rfl (fun h6 => ?_) (fun h6 => ?_)
    · have _b6 := True.intro
      have b : jhv h x y = false := by simp [jhv, h2, jin_neg h6]
      refine j_iconst X (v := (nI 0)) (q := 32) d_M_isVersion_31 (by decide +kernel) rfl ?_
      refine j_zret X d_M_isVersion_32 (by decide +kernel) ?_
      exact ⟨by rw [b]; rfl, rfl⟩
    · have _b6 := True.intro
      refine j_iload_n X (q := 10) d_M_isVersion_9 rfl rfl ?_
      refine j_aload_n X (q := 11) d_M_isVersion_10 rfl rfl ?_
      refine j_getI X (C := jR5) (T := jT5) (N := 18) (ci := 5) (j := 2) (q := 14) d_M_isVersion_11 ju5 rfl rfl rfl (by decide) wl485 rfl (hC _ _ (by decide)) rfl (jMs_V hm) ?_
      refine j_icmp_ge X (tgt := 31) (q := 17) d_M_isVersion_14 (by decide) rfl (fun h14 => ?_) (fun h14 => ?_)
      · have _b14 := True.intro
        have b : jhv h x y = false := by simp [jhv, h2, jin_big (show hyV h < 2 ^ 31 by omega) h14]
        refine j_iconst X (v := (nI 0)) (q := 32) d_M_isVersion_31 (by decide +kernel) rfl ?_
        refine j_zret X d_M_isVersion_32 (by decide +kernel) ?_
        exact ⟨by rw [b]; rfl, rfl⟩
      · have _b14 := True.intro
        obtain ⟨k, hk, ek⟩ := jin_of (jin_yes (show hyV h < 2 ^ 31 by omega) h6 h14) (by omega)
        have bk := jHw_I hw hk
        refine j_aload_n X (q := 18) d_M_isVersion_17 rfl rfl ?_
        refine j_getR X (C := jR5) (T := jT5) (N := 18) (ci := 5) (j := 4) (q := 21) d_M_isVersion_18 ju5 rfl rfl rfl (by decide) wl487 rfl (hC _ _ (by decide)) rfl ?_
        refine j_iload_n X (q := 22) d_M_isVersion_21 rfl rfl ?_
        refine j_iald X (j := k) (q := 23) d_M_isVersion_22 rfl (by decide) ek (by omega) (hC _ _ (by decide)) rfl (jMs_I hm hk) ?_
        refine j_iload_n X (q := 24) d_M_isVersion_23 rfl rfl ?_
        refine j_icmp_ne X (tgt := 31) (q := 27) d_M_isVersion_24 (by decide) rfl (fun h24 => ?_) (fun h24 => ?_)
        · have _b24 := True.intro
          have b : jhv h x y = false := by
            subst ek
            rw [nI_eq (by omega) (by omega)] at h24
            simp [jhv, h2, nI_clamp (show k < 2 ^ 31 by omega), h24]
          refine j_iconst X (v := (nI 0)) (q := 32) d_M_isVersion_31 (by decide +kernel) rfl ?_
          refine j_zret X d_M_isVersion_32 (by decide +kernel) ?_
          exact ⟨by rw [b]; rfl, rfl⟩
        · have _b24 := True.intro
          have b : jhv h x y = true := by
            have e2 := jin_yes (show hyV h < 2 ^ 31 by omega) h6 h14
            subst ek
            rw [nI_eq (by omega) (by omega)] at h24
            simp [jhv, e2, nI_clamp (show k < 2 ^ 31 by omega), h24]
          refine j_iconst X (v := (nI 1)) (q := 28) d_M_isVersion_27 (by decide +kernel) rfl ?_
          refine j_goto X (tgt := 32) d_M_isVersion_28 (by decide) ?_
          refine j_zret X d_M_isVersion_32 (by decide +kernel) ?_
          exact ⟨by rw [b]; rfl, rfl⟩
set_option maxRecDepth 100000 in
set_option maxHeartbeats 4000000 in
theorem c_M_isFinal {l : Launch} {Θ : jxT} (hI : jxI Θ) (hC : ∀ g r, r < jrwM g → Θ.2.2.2 g r) {h : jH} {v : jV} {σ : jxM} (hw : jHw h) (hv : jVc h v) (hm : jMv h σ) {w : Nat} (hw1 : w < hyV h) : jxMet l y_M_isFinal b_M_isFinal 4 (some FieldType.boolean) (jrm 1) Θ [.inr (40, 0), .inl (nI w)] σ (jan (jB (decide (hylt h (hyW h w) (hyI h w) = some w))) σ) := by
  refine jxMet.of (own := "HistoryJudgeModel") hI (by decide) rfl (Nat.le_of_ble_eq_true rfl) (fun Γ X => ?_)
  show jxW Γ Θ (jan (jB (decide (hylt h (hyW h w) (hyI h w) = some w))) σ) 0 [some (.inr (40, 0)), some (.inl (nI w)), none, none] [] σ
  have bV := jHw_V hw
  have c1 := jHw_W hw hw1
  have c2 := jHw_I hw hw1
  have K : ∀ (N : Nat) (k : Nat), hyV h - k < N → (w < k ∧ k ≤ hyV h) → jxW Γ Θ (jan (jB (decide (hylt h (hyW h w) (hyI h w) = some w))) σ) 6 [some (.inr (40, 0)), some (.inl (nI w)), some (.inl (jB (jd (∀ q, w < q → q < k → ¬ (hyW h q = hyW h w ∧ hyI h q = hyI h w))))), some (.inl (nI (k)))] [] σ := by
    intro N
    induction N with
    | zero => intro k hn; exact absurd hn (Nat.not_lt_zero _)
    | succ N ih =>
      intro k hn hk
      refine j_iload_n X (q := 7) d_M_isFinal_6 rfl rfl ?_
      refine j_aload_n X (q := 8) d_M_isFinal_7 rfl rfl ?_
      refine j_getI X (C := jR5) (T := jT5) (N := 18) (ci := 5) (j := 2) (q := 11) d_M_isFinal_8 ju5 rfl rfl rfl (by decide) wl485 rfl (hC _ _ (by decide)) rfl hm.1 ?_
      refine j_ncmp_ge X (tgt := 60) (q := 14) d_M_isFinal_11 (by decide) rfl (by omega) (by omega) (fun h11 => ?_) (fun h11 => ?_)
      · have _b11 := True.intro
        refine j_iload_n X (q := 61) d_M_isFinal_60 rfl rfl ?_
        refine j_zret X d_M_isFinal_61 (jB_narrow _) ?_
        have e : k = hyV h := by omega
        subst e
        refine ⟨?_, rfl⟩
        have hc := hv.2.2.2.2.2 w hw1
        congr 2
        by_cases z : hylt h (hyW h w) (hyI h w) = some w
        · rw [decide_eq_true z, jd_iff.mpr (hc.mp z)]
        · rw [decide_eq_false z, jd_no.mpr (fun q => z (hc.mpr q))]
      · have _b11 := True.intro
        have c3 := jHw_W hw (show k < hyV h by omega)
        have c4 := jHw_I hw (show k < hyV h by omega)
        have J53 : jxW Γ Θ (jan (jB (decide (hylt h (hyW h w) (hyI h w) = some w))) σ) 53 [some (.inr (40, 0)), some (.inl (nI w)), some (.inl (jB (jd (∀ q, w < q → q < k → ¬ (hyW h q = hyW h w ∧ hyI h q = hyI h w))))), some (.inl (nI k))] [.inl (jB (jd (∀ q, w < q → q < (k + 1) → ¬ (hyW h q = hyW h w ∧ hyI h q = hyI h w))))] σ := by
          refine j_istore_n X (j := 2) (q := 54) d_M_isFinal_53 rfl (Nat.le_of_ble_eq_true rfl) rfl ?_
          refine j_iinc X (q := 57) d_M_isFinal_54 rfl (j_inc1 _) rfl ?_
          refine j_goto X (tgt := 6) d_M_isFinal_57 (by decide) ?_
          refine jxW.to (L' := [some (.inr (40, 0)), some (.inl (nI w)), some (.inl (jB (jd (∀ q, w < q → q < (k + 1) → ¬ (hyW h q = hyW h w ∧ hyI h q = hyI h w))))), some (.inl (nI (k + 1)))]) (by simp [jfg]) ?_
          exact ih (k + 1) (by omega) (by omega)
        refine j_iload_n X (q := 15) d_M_isFinal_14 rfl rfl ?_
        refine j_bif_eq X (tgt := 52) (q := 18) d_M_isFinal_15 (by decide) rfl (fun h15 => ?_) (fun h15 => ?_)
        · have _b15 := True.intro
          refine j_iconst X (v := (nI 0)) (q := 53) d_M_isFinal_52 (by decide +kernel) rfl ?_
          refine jxW.cast rfl (show _ = [.inl (jB (jd (∀ q, w < q → q < (k + 1) → ¬ (hyW h q = hyW h w ∧ hyI h q = hyI h w))))] from congrArg (fun z => [Sum.inl z]) (by rw [jd_no.mpr (fun q => jd_no.mp h15 (fun a h1 h2 => q a h1 (by omega)))]; rfl)) rfl ?_
          exact J53
        · have _b15 := True.intro
          refine j_aload_n X (q := 19) d_M_isFinal_18 rfl rfl ?_
          refine j_getR X (C := jR5) (T := jT5) (N := 18) (ci := 5) (j := 3) (q := 22) d_M_isFinal_19 ju5 rfl rfl rfl (by decide) wl486 rfl (hC _ _ (by decide)) rfl ?_
          refine j_iload_n X (q := 23) d_M_isFinal_22 rfl rfl ?_
          refine j_iald X (q := 24) d_M_isFinal_23 rfl (by decide) rfl (by omega) (hC _ _ (by decide)) rfl (hm.2 k (show k < hyV h by omega)).1 ?_
          refine j_aload_n X (q := 25) d_M_isFinal_24 rfl rfl ?_
          refine j_getR X (C := jR5) (T := jT5) (N := 18) (ci := 5) (j := 3) (q := 28) d_M_isFinal_25 ju5 rfl rfl rfl (by decide) wl486 rfl (hC _ _ (by decide)) rfl ?_
          refine j_iload_n X (q := 29) d_M_isFinal_28 rfl rfl ?_
          refine j_iald X (q := 30) d_M_isFinal_29 rfl (by decide) rfl (by omega) (hC _ _ (by decide)) rfl (hm.2 w hw1).1 ?_
          refine j_ncmp_ne X (tgt := 48) (q := 33) d_M_isFinal_30 (by decide) rfl (by omega) (by omega) (fun h30 => ?_) (fun h30 => ?_)
          · have _b30 := True.intro
            refine j_iconst X (v := (nI 1)) (q := 49) d_M_isFinal_48 (by decide +kernel) rfl ?_
            refine j_goto X (tgt := 53) d_M_isFinal_49 (by decide) ?_
            refine jxW.cast rfl (show _ = [.inl (jB (jd (∀ q, w < q → q < (k + 1) → ¬ (hyW h q = hyW h w ∧ hyI h q = hyI h w))))] from congrArg (fun z => [Sum.inl z]) (by rw [jd_iff.mpr (fun a h1 h2 => if z : a = k then by subst z; exact fun y => h30 y.1 else jd_iff.mp h15 a h1 (by omega))]; rfl)) rfl ?_
            exact J53
          · have _b30 := True.intro
            refine j_aload_n X (q := 34) d_M_isFinal_33 rfl rfl ?_
            refine j_getR X (C := jR5) (T := jT5) (N := 18) (ci := 5) (j := 4) (q := 37) d_M_isFinal_34 ju5 rfl rfl rfl (by decide) wl487 rfl (hC _ _ (by decide)) rfl ?_
            refine j_iload_n X (q := 38) d_M_isFinal_37 rfl rfl ?_
            refine j_iald X (q := 39) d_M_isFinal_38 rfl (by decide) rfl (by omega) (hC _ _ (by decide)) rfl (hm.2 k (show k < hyV h by omega)).2 ?_
            refine j_aload_n X (q := 40) d_M_isFinal_39 rfl rfl ?_
            refine j_getR X (C := jR5) (T := jT5) (N := 18) (ci := 5) (j := 4) (q := 43) d_M_isFinal_40 ju5 rfl rfl rfl (by decide) wl487 rfl (hC _ _ (by decide)) rfl ?_
            refine j_iload_n X (q := 44) d_M_isFinal_43 rfl rfl ?_
            refine j_iald X (q := 45) d_M_isFinal_44 rfl (by decide) rfl (by omega) (hC _ _ (by decide)) rfl (hm.2 w hw1).2 ?_
            refine j_ncmp_eq X (tgt := 52) (q := 48) d_M_isFinal_45 (by decide) rfl (by omega) (by omega) (fun h45 => ?_) (fun h45 => ?_)
            · have _b45 := True.intro
              refine j_iconst X (v := (nI 0)) (q := 53) d_M_isFinal_52 (by decide +kernel) rfl ?_
              refine jxW.cast rfl (show _ = [.inl (jB (jd (∀ q, w < q → q < (k + 1) → ¬ (hyW h q = hyW h w ∧ hyI h q = hyI h w))))] from congrArg (fun z => [Sum.inl z]) (by rw [jd_no.mpr (fun q => q k (by omega) (by omega) ⟨h30, h45⟩)]; rfl)) rfl ?_
              exact J53
            · have _b45 := True.intro
              refine j_iconst X (v := (nI 1)) (q := 49) d_M_isFinal_48 (by decide +kernel) rfl ?_
              refine j_goto X (tgt := 53) d_M_isFinal_49 (by decide) ?_
              refine jxW.cast rfl (show _ = [.inl (jB (jd (∀ q, w < q → q < (k + 1) → ¬ (hyW h q = hyW h w ∧ hyI h q = hyI h w))))] from congrArg (fun z => [Sum.inl z]) (by rw [jd_iff.mpr (fun a h1 h2 => if z : a = k then by subst z; exact fun y => h45 y.2 else jd_iff.mp h15 a h1 (by omega))]; rfl)) rfl ?_
              exact J53
  refine j_iconst X (v := (nI 1)) (q := 1) d_M_isFinal_0 (by decide +kernel) rfl ?_
  refine j_istore_n X (j := 2) (q := 2) d_M_isFinal_1 rfl (Nat.le_of_ble_eq_true rfl) rfl ?_
  refine j_iload_n X (q := 3) d_M_isFinal_2 rfl rfl ?_
  refine j_iconst X (v := (nI 1)) (q := 4) d_M_isFinal_3 (by decide +kernel) rfl ?_
  refine j_iadd X (q := 5) d_M_isFinal_4 rfl ?_
  refine j_istore_n X (j := 3) (q := 6) d_M_isFinal_5 rfl (Nat.le_of_ble_eq_true rfl) rfl ?_
  refine jxW.to (L' := [some (.inr (40, 0)), some (.inl (nI w)), some (.inl (jB (jd (∀ q, w < q → q < (w + 1) → ¬ (hyW h q = hyW h w ∧ hyI h q = hyI h w))))), some (.inl (nI (w + 1)))]) (by simp [jfg, nI_add]; rw [jd_iff.mpr (fun q h1 h2 => by omega)]; rfl) ?_
  exact K 41 (w + 1) (by omega) (by omega)
set_option maxRecDepth 100000 in
set_option maxHeartbeats 4000000 in
theorem c_M_nextOf {l : Launch} {Θ : jxT} (hI : jxI Θ) (hC : ∀ g r, r < jrwM g → Θ.2.2.2 g r) {h : jH} {v : jV} {σ : jxM} (hw : jHw h) (hv : jVc h v) (hm : jMs h v σ) {x : Nat} {o : Option Nat} (hx : x < 6) (ho : ∀ w, o = some w → w < hyV h) : jxMet l y_M_nextOf b_M_nextOf 5 (some FieldType.int) (jrm 1) Θ [.inr (40, 0), .inl (nI x), .inl (vI o)] σ (fun r' σ' => ∃ o', r' = some (.inl (vI o')) ∧ σ = σ' ∧ jnv h x o o') := by
  refine jxMet.of (own := "HistoryJudgeModel") hI (by decide) rfl (Nat.le_of_ble_eq_true rfl) (fun Γ X => ?_)
  show jxW Γ Θ (fun r' σ' => ∃ o', r' = some (.inl (vI o')) ∧ σ = σ' ∧ jnv h x o o') 0 [some (.inr (40, 0)), some (.inl (nI x)), some (.inl (vI o)), none, none] [] σ
  have bV := jHw_V hw
  have bO := jHw_on hw hx
  have bm := vI_m1 o (fun w hw => by have := ho w hw; omega)
  have K : ∀ (N : Nat) (i : Nat) (o1 : Option Nat), 9 - i < N → i ≤ 8 → ((o = none → (o1 = none ∧ hyon h x = 0) ∨ (0 < hyon h x ∧ o1 = some (hyod h x 0))) ∧ ∀ w, o = some w → (o1 = none ∧ ∀ j, j < i → hyod h x j ≠ w) ∨ ∃ j, j < i ∧ j + 1 < hyon h x ∧ hyod h x j = w ∧ o1 = some (hyod h x (j + 1))) → jxW Γ Θ (fun r' σ' => ∃ o', r' = some (.inl (vI o')) ∧ σ = σ' ∧ jnv h x o o') 31 [some (.inr (40, 0)), some (.inl (nI x)), some (.inl (vI o)), some (.inl (vI o1)), some (.inl (nI i))] [] σ := by
    intro N
    induction N with
    | zero => intro i o1 hn; exact absurd hn (Nat.not_lt_zero _)
    | succ N ih =>
      intro i o1 hn hi hoi
      refine j_iload X (q := 33) d_M_nextOf_31 rfl rfl ?_
      refine j_iconst X (v := (nI 1)) (q := 34) d_M_nextOf_33 (by decide +kernel) rfl ?_
      refine j_iadd X (q := 35) d_M_nextOf_34 rfl ?_
      refine j_aload_n X (q := 36) d_M_nextOf_35 rfl rfl ?_
      refine j_getR X (C := jR5) (T := jT5) (N := 18) (ci := 5) (j := 11) (q := 39) d_M_nextOf_36 ju5 rfl rfl rfl (by decide) wl494 rfl (hC _ _ (by decide)) rfl ?_
      refine j_iload_n X (q := 40) d_M_nextOf_39 rfl rfl ?_
      refine j_iald X (q := 41) d_M_nextOf_40 rfl (by decide) rfl (by omega) (hC _ _ (by decide)) rfl (jMs_on hm hx) ?_
      rw [nI_add]
      refine j_ncmp_ge X (tgt := 89) (q := 44) d_M_nextOf_41 (by decide) rfl (by omega) (by omega) (fun h41 => ?_) (fun h41 => ?_)
      · have _b41 := True.intro
        skip
        refine j_iload_n X (q := 90) d_M_nextOf_89 rfl rfl ?_
        refine j_iret X d_M_nextOf_90 ?_
        refine ⟨o1, rfl, rfl, ?_⟩
        cases o with
        | none =>
          rcases hoi.1 rfl with ⟨rfl, z⟩ | ⟨z, rfl⟩
          · exact Or.inl ⟨rfl, fun _ => z, fun w q => by cases q⟩
          · exact Or.inr ⟨0, z, Or.inl ⟨rfl, rfl⟩, rfl⟩
        | some w =>
          rcases hoi.2 w rfl with ⟨rfl, z⟩ | ⟨j, z1, z2, z3, rfl⟩
          · exact Or.inl ⟨rfl, fun q => (by cases q), fun w' q j hj => by cases q; exact z j (by omega)⟩
          · exact Or.inr ⟨j + 1, z2, Or.inr ⟨by omega, by rw [Nat.add_sub_cancel, z3]⟩, rfl⟩
      · have _b41 := True.intro
        refine j_iload_n X (q := 45) d_M_nextOf_44 rfl rfl ?_
        refine j_if_lt X (tgt := 81) (q := 48) d_M_nextOf_45 (by decide) rfl (fun h45 => ?_) (fun h45 => ?_)
        · have _b45 := True.intro
          have ho1 : o = none := by
            cases o with
            | none => rfl
            | some w => exact absurd h45 (nI_pos (by have := ho w rfl; omega))
          refine j_iload_n X (q := 82) d_M_nextOf_81 rfl rfl ?_
          refine j_istore_n X (j := 3) (q := 83) d_M_nextOf_82 rfl (Nat.le_of_ble_eq_true rfl) rfl ?_
          refine j_iinc X (q := 86) d_M_nextOf_83 rfl (j_inc1 _) rfl ?_
          refine j_goto X (tgt := 31) d_M_nextOf_86 (by decide) ?_
          refine jxW.to (L' := [some (.inr (40, 0)), some (.inl (nI x)), some (.inl (vI o)), some (.inl (vI o1)), some (.inl (nI (i + 1)))]) (by simp [jfg, vI]) ?_
          exact ih (i + 1) o1 (by omega) (by omega) ⟨hoi.1, fun w q => by rw [ho1] at q; cases q⟩
        · have _b45 := True.intro
          obtain ⟨w, ew⟩ : ∃ w, o = some w := by
            cases o with
            | none => exact absurd (by decide +kernel : vI none < 0) h45
            | some w => exact ⟨w, rfl⟩
          refine j_aload_n X (q := 49) d_M_nextOf_48 rfl rfl ?_
          refine j_getR X (C := jR5) (T := jT5) (N := 18) (ci := 5) (j := 12) (q := 52) d_M_nextOf_49 ju5 rfl rfl rfl (by decide) wl495 rfl (hC _ _ (by decide)) rfl ?_
          refine j_bipush X (v := (nI 8)) (q := 54) d_M_nextOf_52 (by decide +kernel) rfl ?_
          refine j_iload_n X (q := 55) d_M_nextOf_54 rfl rfl ?_
          refine j_imul X (q := 56) d_M_nextOf_55 rfl ?_
          refine j_iload X (q := 58) d_M_nextOf_56 rfl rfl ?_
          refine j_iadd X (q := 59) d_M_nextOf_58 rfl ?_
          refine j_iald X (j := 8 * x + i) (q := 60) d_M_nextOf_59 rfl (by decide) (j_ix 8 x i) (by omega) (hC _ _ (by decide)) rfl (jMs_od hm hx (by omega)) ?_
          refine j_iload_n X (q := 61) d_M_nextOf_60 rfl rfl ?_
          refine jxW.cast rfl (show _ = [.inl (nI w), .inl (nI (hyod h x i))] by rw [ew]; rfl) rfl ?_
          refine j_ncmp_ne X (tgt := 81) (q := 64) d_M_nextOf_61 (by decide) rfl (by have := (jHw_od hw hx (show i < hyon h x by omega)).1; omega) (by have := ho w ew; omega) (fun h61 => ?_) (fun h61 => ?_)
          · have _b61 := True.intro
            refine j_iload_n X (q := 82) d_M_nextOf_81 rfl rfl ?_
            refine j_istore_n X (j := 3) (q := 83) d_M_nextOf_82 rfl (Nat.le_of_ble_eq_true rfl) rfl ?_
            refine j_iinc X (q := 86) d_M_nextOf_83 rfl (j_inc1 _) rfl ?_
            refine j_goto X (tgt := 31) d_M_nextOf_86 (by decide) ?_
            refine jxW.to (L' := [some (.inr (40, 0)), some (.inl (nI x)), some (.inl (vI o)), some (.inl (vI o1)), some (.inl (nI (i + 1)))]) (by simp [jfg, vI]) ?_
            exact ih (i + 1) o1 (by omega) (by omega) ⟨hoi.1, fun w' q => by
              rw [ew] at q
              cases q
              rcases hoi.2 w ew with ⟨z1, z2⟩ | ⟨j, z1, z⟩
              · exact Or.inl ⟨z1, fun j hj => by
                  by_cases y : j = i
                  · subst y; exact h61
                  · exact z2 j (by omega)⟩
              · exact Or.inr ⟨j, by omega, z⟩⟩
          · have _b61 := True.intro
            refine j_aload_n X (q := 65) d_M_nextOf_64 rfl rfl ?_
            refine j_getR X (C := jR5) (T := jT5) (N := 18) (ci := 5) (j := 12) (q := 68) d_M_nextOf_65 ju5 rfl rfl rfl (by decide) wl495 rfl (hC _ _ (by decide)) rfl ?_
            refine j_bipush X (v := (nI 8)) (q := 70) d_M_nextOf_68 (by decide +kernel) rfl ?_
            refine j_iload_n X (q := 71) d_M_nextOf_70 rfl rfl ?_
            refine j_imul X (q := 72) d_M_nextOf_71 rfl ?_
            refine j_iload X (q := 74) d_M_nextOf_72 rfl rfl ?_
            refine j_iadd X (q := 75) d_M_nextOf_74 rfl ?_
            refine j_iconst X (v := (nI 1)) (q := 76) d_M_nextOf_75 (by decide +kernel) rfl ?_
            refine j_iadd X (q := 77) d_M_nextOf_76 rfl ?_
            refine j_iald X (j := 8 * x + (i + 1)) (q := 78) d_M_nextOf_77 rfl (by decide) (show nI 8 * nI x + nI i + nI 1 = _ by rw [j_ix, nI_add, Nat.add_assoc]) (by omega) (hC _ _ (by decide)) rfl (jMs_od hm hx (by omega)) ?_
            refine j_goto X (tgt := 82) d_M_nextOf_78 (by decide) ?_
            refine j_istore_n X (j := 3) (q := 83) d_M_nextOf_82 rfl (Nat.le_of_ble_eq_true rfl) rfl ?_
            refine j_iinc X (q := 86) d_M_nextOf_83 rfl (j_inc1 _) rfl ?_
            refine j_goto X (tgt := 31) d_M_nextOf_86 (by decide) ?_
            refine jxW.to (L' := [some (.inr (40, 0)), some (.inl (nI x)), some (.inl (vI o)), some (.inl (vI (some (hyod h x (i + 1))))), some (.inl (nI (i + 1)))]) (by simp [jfg, vI]) ?_
            exact ih (i + 1) (some (hyod h x (i + 1))) (by omega) (by omega) ⟨fun q => (by rw [ew] at q; cases q), fun w' q => by rw [ew] at q; cases q; exact Or.inr ⟨i, by omega, by omega, h61, rfl⟩⟩
  have J27 : ∀ o1 : Option Nat, ((o = none → (o1 = none ∧ hyon h x = 0) ∨ (0 < hyon h x ∧ o1 = some (hyod h x 0))) ∧ ∀ w, o = some w → (o1 = none ∧ ∀ j, j < 0 → hyod h x j ≠ w) ∨ ∃ j, j < 0 ∧ j + 1 < hyon h x ∧ hyod h x j = w ∧ o1 = some (hyod h x (j + 1))) → jxW Γ Θ (fun r' σ' => ∃ o', r' = some (.inl (vI o')) ∧ σ = σ' ∧ jnv h x o o') 27 [some (.inr (40, 0)), some (.inl (nI x)), some (.inl (vI o)), none, none] [.inl (vI o1)] σ := by
    intro o1 hoi
    refine j_istore_n X (j := 3) (q := 28) d_M_nextOf_27 rfl (Nat.le_of_ble_eq_true rfl) rfl ?_
    refine j_iconst X (v := (nI 0)) (q := 29) d_M_nextOf_28 (by decide +kernel) rfl ?_
    refine j_istore X (q := 31) d_M_nextOf_29 (Nat.le_of_ble_eq_true rfl) rfl ?_
    refine jxW.to (L' := [some (.inr (40, 0)), some (.inl (nI x)), some (.inl (vI o)), some (.inl (vI o1)), some (.inl (nI 0))]) (by simp [jfg]) ?_
    exact K 10 0 o1 (by omega) (by omega) hoi
  refine j_iload_n X (q := 1) d_M_nextOf_0 rfl rfl ?_
  refine j_iconst X (v := (-1)) (q := 2) d_M_nextOf_1 (by decide +kernel) rfl ?_
  refine j_icmp_ne X (tgt := 26) (q := 5) d_M_nextOf_2 (by decide) rfl (fun h2 => ?_) (fun h2 => ?_)
  · have _b2 := True.intro
    have ho1 : o ≠ none := fun q => h2 (bm.mpr q)
    refine j_iconst X (v := (-1)) (q := 27) d_M_nextOf_26 (by decide +kernel) rfl ?_
    refine jxW.to (L' := [some (.inr (40, 0)), some (.inl (nI x)), some (.inl (vI o)), none, none]) (by simp [jfg]) ?_
    exact J27 none ⟨fun q => absurd q ho1, fun w _ => Or.inl ⟨rfl, fun j hj => by omega⟩⟩
  · have _b2 := True.intro
    obtain rfl := bm.mp h2
    refine j_aload_n X (q := 6) d_M_nextOf_5 rfl rfl ?_
    refine j_getR X (C := jR5) (T := jT5) (N := 18) (ci := 5) (j := 11) (q := 9) d_M_nextOf_6 ju5 rfl rfl rfl (by decide) wl494 rfl (hC _ _ (by decide)) rfl ?_
    refine j_iload_n X (q := 10) d_M_nextOf_9 rfl rfl ?_
    refine j_iald X (q := 11) d_M_nextOf_10 rfl (by decide) rfl (by omega) (hC _ _ (by decide)) rfl (jMs_on hm hx) ?_
    refine j_nif_le X (tgt := 26) (q := 14) d_M_nextOf_11 (by decide) rfl (by omega) (fun h11 => ?_) (fun h11 => ?_)
    · have _b11 := True.intro
      refine j_iconst X (v := (-1)) (q := 27) d_M_nextOf_26 (by decide +kernel) rfl ?_
      refine jxW.to (L' := [some (.inr (40, 0)), some (.inl (nI x)), some (.inl (vI none)), none, none]) (by simp [jfg]) ?_
      exact J27 none ⟨fun _ => Or.inl ⟨rfl, by omega⟩, fun w q => by cases q⟩
    · have _b11 := True.intro
      refine j_aload_n X (q := 15) d_M_nextOf_14 rfl rfl ?_
      refine j_getR X (C := jR5) (T := jT5) (N := 18) (ci := 5) (j := 12) (q := 18) d_M_nextOf_15 ju5 rfl rfl rfl (by decide) wl495 rfl (hC _ _ (by decide)) rfl ?_
      refine j_bipush X (v := (nI 8)) (q := 20) d_M_nextOf_18 (by decide +kernel) rfl ?_
      refine j_iload_n X (q := 21) d_M_nextOf_20 rfl rfl ?_
      refine j_imul X (q := 22) d_M_nextOf_21 rfl ?_
      refine j_iald X (j := 8 * x + 0) (q := 23) d_M_nextOf_22 rfl (by decide) (pk_mul 8 x) (by omega) (hC _ _ (by decide)) rfl (show _ = nI (hyod h x 0) from jMs_od hm hx (i := 0) (by omega)) ?_
      refine j_goto X (tgt := 27) d_M_nextOf_23 (by decide) ?_
      refine jxW.to (L' := [some (.inr (40, 0)), some (.inl (nI x)), some (.inl (vI none)), none, none]) (by simp [jfg]) ?_
      exact J27 (some (hyod h x 0)) ⟨fun _ => Or.inr ⟨by omega, rfl⟩, fun w q => by cases q⟩
