/-! The history: what only reads it. -/
set_option maxRecDepth 100000 in
set_option maxHeartbeats 4000000 in
theorem c_H_isCommitted {l : Launch} {Θ : jxT} (hI : jxI Θ) (hC : ∀ g r, r < jrwH g → Θ.2.2.2 g r) {h : jH} {σ : jxM} (hw : jHw h) (hs : jHs h σ) {t : Nat} (ht : t < 8) : jxMet l y_H_isCommitted b_H_isCommitted 2 (some FieldType.boolean) (jrm 1) Θ [.inr (1, 0), .inl (nI t)] σ (jan (jB (decide (hyS h t = 2))) σ) := by
  refine jxMet.of (own := "HistoryJudge$History") hI (by decide) rfl (Nat.le_of_ble_eq_true rfl) (fun Γ X => ?_)
  show jxW Γ Θ (jan (jB (decide (hyS h t = 2))) σ) 0 [some (.inr (1, 0)), some (.inl (nI t))] [] σ
  have b1 := jHw_S hw ht
  refine j_aload_n X (q := 1) d_H_isCommitted_0 rfl rfl ?_
  refine j_getR X (C := jR2) (T := jT2) (N := 12) (ci := 2) (j := 0) (q := 4) d_H_isCommitted_1 ju2 rfl rfl rfl (by decide) wl73 rfl (hC _ _ (by decide)) rfl ?_
  refine j_iload_n X (q := 5) d_H_isCommitted_4 rfl rfl ?_
  refine j_iald X (q := 6) d_H_isCommitted_5 rfl (by decide) rfl (by omega) (hC _ _ (by decide)) rfl (jHs_S hs ht) ?_
  refine j_iconst X (v := (nI 2)) (q := 7) d_H_isCommitted_6 (by decide +kernel) rfl ?_
  refine j_ncmp_ne X (tgt := 14) (q := 10) d_H_isCommitted_7 (by decide) rfl (by omega) (by omega) (fun h7 => ?_) (fun h7 => ?_)
  · have _b7 := True.intro
    refine j_iconst X (v := (nI 0)) (q := 15) d_H_isCommitted_14 (by decide +kernel) rfl ?_
    refine j_zret X d_H_isCommitted_15 (by decide +kernel) ?_
    exact ⟨by simp [h7, jB], rfl⟩
  · have _b7 := True.intro
    refine j_iconst X (v := (nI 1)) (q := 11) d_H_isCommitted_10 (by decide +kernel) rfl ?_
    refine j_goto X (tgt := 15) d_H_isCommitted_11 (by decide) ?_
    refine j_zret X d_H_isCommitted_15 (by decide +kernel) ?_
    exact ⟨by simp [h7, jB], rfl⟩
set_option maxRecDepth 100000 in
set_option maxHeartbeats 4000000 in
theorem c_H_hasEnded {l : Launch} {Θ : jxT} (hI : jxI Θ) (hC : ∀ g r, r < jrwH g → Θ.2.2.2 g r) {h : jH} {σ : jxM} (hw : jHw h) (hs : jHs h σ) {t : Nat} (ht : t < 8) : jxMet l y_H_hasEnded b_H_hasEnded 2 (some FieldType.boolean) (jrm 1) Θ [.inr (1, 0), .inl (nI t)] σ (jan (jB (decide (1 < hyS h t))) σ) := by
  refine jxMet.of (own := "HistoryJudge$History") hI (by decide) rfl (Nat.le_of_ble_eq_true rfl) (fun Γ X => ?_)
  show jxW Γ Θ (jan (jB (decide (1 < hyS h t))) σ) 0 [some (.inr (1, 0)), some (.inl (nI t))] [] σ
  have b1 := jHw_S hw ht
  refine j_aload_n X (q := 1) d_H_hasEnded_0 rfl rfl ?_
  refine j_getR X (C := jR2) (T := jT2) (N := 12) (ci := 2) (j := 0) (q := 4) d_H_hasEnded_1 ju2 rfl rfl rfl (by decide) wl73 rfl (hC _ _ (by decide)) rfl ?_
  refine j_iload_n X (q := 5) d_H_hasEnded_4 rfl rfl ?_
  refine j_iald X (q := 6) d_H_hasEnded_5 rfl (by decide) rfl (by omega) (hC _ _ (by decide)) rfl (jHs_S hs ht) ?_
  refine j_iconst X (v := (nI 2)) (q := 7) d_H_hasEnded_6 (by decide +kernel) rfl ?_
  refine j_ncmp_eq X (tgt := 20) (q := 10) d_H_hasEnded_7 (by decide) rfl (by omega) (by omega) (fun h7 => ?_) (fun h7 => ?_)
  · have _b7 := True.intro
    refine j_iconst X (v := (nI 1)) (q := 21) d_H_hasEnded_20 (by decide +kernel) rfl ?_
    refine j_goto X (tgt := 25) d_H_hasEnded_21 (by decide) ?_
    refine j_zret X d_H_hasEnded_25 (by decide +kernel) ?_
    refine ⟨?_, rfl⟩
    first
      | rw [decide_eq_true (show 1 < hyS h t by omega)]; rfl
      | rw [decide_eq_false (show ¬ 1 < hyS h t by omega)]; rfl
  · have _b7 := True.intro
    refine j_aload_n X (q := 11) d_H_hasEnded_10 rfl rfl ?_
    refine j_getR X (C := jR2) (T := jT2) (N := 12) (ci := 2) (j := 0) (q := 14) d_H_hasEnded_11 ju2 rfl rfl rfl (by decide) wl73 rfl (hC _ _ (by decide)) rfl ?_
    refine j_iload_n X (q := 15) d_H_hasEnded_14 rfl rfl ?_
    refine j_iald X (q := 16) d_H_hasEnded_15 rfl (by decide) rfl (by omega) (hC _ _ (by decide)) rfl (jHs_S hs ht) ?_
    refine j_iconst X (v := (nI 3)) (q := 17) d_H_hasEnded_16 (by decide +kernel) rfl ?_
    refine j_ncmp_ne X (tgt := 24) (q := 20) d_H_hasEnded_17 (by decide) rfl (by omega) (by omega) (fun h17 => ?_) (fun h17 => ?_)
    · have _b17 := True.intro
      refine j_iconst X (v := (nI 0)) (q := 25) d_H_hasEnded_24 (by decide +kernel) rfl ?_
      refine j_zret X d_H_hasEnded_25 (by decide +kernel) ?_
      refine ⟨?_, rfl⟩
      first
        | rw [decide_eq_true (show 1 < hyS h t by omega)]; rfl
        | rw [decide_eq_false (show ¬ 1 < hyS h t by omega)]; rfl
    · have _b17 := True.intro
      refine j_iconst X (v := (nI 1)) (q := 21) d_H_hasEnded_20 (by decide +kernel) rfl ?_
      refine j_goto X (tgt := 25) d_H_hasEnded_21 (by decide) ?_
      refine j_zret X d_H_hasEnded_25 (by decide +kernel) ?_
      refine ⟨?_, rfl⟩
      first
        | rw [decide_eq_true (show 1 < hyS h t by omega)]; rfl
        | rw [decide_eq_false (show ¬ 1 < hyS h t by omega)]; rfl
set_option maxRecDepth 100000 in
set_option maxHeartbeats 4000000 in
theorem c_H_hasWritten {l : Launch} {Θ : jxT} (hI : jxI Θ) (hC : ∀ g r, r < jrwH g → Θ.2.2.2 g r) {h : jH} {σ : jxM} (hw : jHw h) (hs : jHs h σ) {t x : Nat} (ht : t < 8) (hx : x < 6) : jxMet l y_H_hasWritten b_H_hasWritten 3 (some FieldType.boolean) (jrm 1) Θ [.inr (1, 0), .inl (nI t), .inl (nI x)] σ (jan (jB (hylt h t x).isSome) σ) := by
  refine jxMet.of (own := "HistoryJudge$History") hI (by decide) rfl (Nat.le_of_ble_eq_true rfl) (fun Γ X => ?_)
  show jxW Γ Θ (jan (jB (hylt h t x).isSome) σ) 0 [some (.inr (1, 0)), some (.inl (nI t)), some (.inl (nI x))] [] σ
  have b1 := vI_m1 (hylt h t x) (fun v hv => by have := (jHw_lt hw ht hx hv).1; have := jHw_V hw; omega)
  refine j_aload_n X (q := 1) d_H_hasWritten_0 rfl rfl ?_
  refine j_getR X (C := jR2) (T := jT2) (N := 12) (ci := 2) (j := 9) (q := 4) d_H_hasWritten_1 ju2 rfl rfl rfl (by decide) wl96 rfl (hC _ _ (by decide)) rfl ?_
  refine j_iload_n X (q := 5) d_H_hasWritten_4 rfl rfl ?_
  refine j_aald X (q := 6) d_H_hasWritten_5 rfl (by decide) rfl (by omega) (hC _ _ (by decide)) rfl ?_
  refine j_iload_n X (q := 7) d_H_hasWritten_6 rfl rfl ?_
  refine j_iald X (q := 8) d_H_hasWritten_7 rfl (by decide) rfl (by omega) (hC _ _ (by show _ < 8; omega)) rfl (jHs_lt hs ht hx) ?_
  refine j_iconst X (v := (-1)) (q := 9) d_H_hasWritten_8 (by decide +kernel) rfl ?_
  refine j_icmp_eq X (tgt := 16) (q := 12) d_H_hasWritten_9 (by decide) rfl (fun h9 => ?_) (fun h9 => ?_)
  · have _b9 := True.intro
    have b2 := b1.mp h9
    refine j_iconst X (v := (nI 0)) (q := 17) d_H_hasWritten_16 (by decide +kernel) rfl ?_
    refine j_zret X d_H_hasWritten_17 (by decide +kernel) ?_
    exact ⟨by rw [b2]; rfl, rfl⟩
  · have _b9 := True.intro
    have b2 : (hylt h t x).isSome = true := by
      cases e : hylt h t x with
      | some v => rfl
      | none => exact absurd (b1.mpr e) h9
    refine j_iconst X (v := (nI 1)) (q := 13) d_H_hasWritten_12 (by decide +kernel) rfl ?_
    refine j_goto X (tgt := 17) d_H_hasWritten_13 (by decide) ?_
    refine j_zret X d_H_hasWritten_17 (by decide +kernel) ?_
    exact ⟨by rw [b2]; rfl, rfl⟩
set_option maxRecDepth 100000 in
set_option maxHeartbeats 4000000 in
theorem c_H_isFinal {l : Launch} {Θ : jxT} (hI : jxI Θ) (hC : ∀ g r, r < jrwH g → Θ.2.2.2 g r) {h : jH} {σ : jxM} (hw : jHw h) (hs : jHs h σ) {v : Nat} (hv : v < hyV h) : jxMet l y_H_isFinal b_H_isFinal 2 (some FieldType.boolean) (jrm 1) Θ [.inr (1, 0), .inl (nI v)] σ (jan (jB (decide (hylt h (hyW h v) (hyI h v) = some v))) σ) := by
  refine jxMet.of (own := "HistoryJudge$History") hI (by decide) rfl (Nat.le_of_ble_eq_true rfl) (fun Γ X => ?_)
  show jxW Γ Θ (jan (jB (decide (hylt h (hyW h v) (hyI h v) = some v))) σ) 0 [some (.inr (1, 0)), some (.inl (nI v))] [] σ
  have bV := jHw_V hw
  have b1 := jHw_W hw hv
  have b2 := jHw_I hw hv
  have b3 : vI (hylt h (hyW h v) (hyI h v)) = nI v ↔ hylt h (hyW h v) (hyI h v) = some v := by
    cases e : hylt h (hyW h v) (hyI h v) with
    | none => exact ⟨fun q => absurd q.symm (nI_ne_m1 (by omega)), fun q => by cases q⟩
    | some w =>
      have := (jHw_lt hw b1 b2 e).1
      show nI w = nI v ↔ some w = some v
      rw [nI_eq (by omega) (by omega), Option.some.injEq]
  refine j_aload_n X (q := 1) d_H_isFinal_0 rfl rfl ?_
  refine j_getR X (C := jR2) (T := jT2) (N := 12) (ci := 2) (j := 9) (q := 4) d_H_isFinal_1 ju2 rfl rfl rfl (by decide) wl96 rfl (hC _ _ (by decide)) rfl ?_
  refine j_aload_n X (q := 5) d_H_isFinal_4 rfl rfl ?_
  refine j_getR X (C := jR2) (T := jT2) (N := 12) (ci := 2) (j := 1) (q := 8) d_H_isFinal_5 ju2 rfl rfl rfl (by decide) wl75 rfl (hC _ _ (by decide)) rfl ?_
  refine j_iload_n X (q := 9) d_H_isFinal_8 rfl rfl ?_
  refine j_iald X (q := 10) d_H_isFinal_9 rfl (by decide) rfl (by omega) (hC _ _ (by decide)) rfl (jHs_W hs hv) ?_
  refine j_aald X (q := 11) d_H_isFinal_10 rfl (by decide) rfl (by omega) (hC _ _ (by decide)) rfl ?_
  refine j_aload_n X (q := 12) d_H_isFinal_11 rfl rfl ?_
  refine j_getR X (C := jR2) (T := jT2) (N := 12) (ci := 2) (j := 2) (q := 15) d_H_isFinal_12 ju2 rfl rfl rfl (by decide) wl78 rfl (hC _ _ (by decide)) rfl ?_
  refine j_iload_n X (q := 16) d_H_isFinal_15 rfl rfl ?_
  refine j_iald X (q := 17) d_H_isFinal_16 rfl (by decide) rfl (by omega) (hC _ _ (by decide)) rfl (jHs_I hs hv) ?_
  refine j_iald X (q := 18) d_H_isFinal_17 rfl (by decide) rfl (by omega) (hC _ _ (by show _ < 8; omega)) rfl (jHs_lt hs b1 b2) ?_
  refine j_iload_n X (q := 19) d_H_isFinal_18 rfl rfl ?_
  refine j_icmp_ne X (tgt := 26) (q := 22) d_H_isFinal_19 (by decide) rfl (fun h19 => ?_) (fun h19 => ?_)
  · have _b19 := True.intro
    have b4 : decide (hylt h (hyW h v) (hyI h v) = some v) = false := decide_eq_false (fun q => h19 (b3.mpr q))
    refine j_iconst X (v := (nI 0)) (q := 27) d_H_isFinal_26 (by decide +kernel) rfl ?_
    refine j_zret X d_H_isFinal_27 (by decide +kernel) ?_
    exact ⟨by rw [b4]; rfl, rfl⟩
  · have _b19 := True.intro
    have b4 : decide (hylt h (hyW h v) (hyI h v) = some v) = true := decide_eq_true (b3.mp h19)
    refine j_iconst X (v := (nI 1)) (q := 23) d_H_isFinal_22 (by decide +kernel) rfl ?_
    refine j_goto X (tgt := 27) d_H_isFinal_23 (by decide) ?_
    refine j_zret X d_H_isFinal_27 (by decide +kernel) ?_
    exact ⟨by rw [b4]; rfl, rfl⟩
/-- the int x names an existing version of the item, or the first one -/
def jhv (h : jH) (x : Nat) (v : Int32) : Bool := decide (v = -1) || (jin v (hyV h) && decide (hyI h v.toNatClampNeg = x))
set_option maxRecDepth 100000 in
set_option maxHeartbeats 4000000 in
theorem c_H_hasVersion {l : Launch} {Θ : jxT} (hI : jxI Θ) (hC : ∀ g r, r < jrwH g → Θ.2.2.2 g r) {h : jH} {σ : jxM} (hw : jHw h) (hs : jHs h σ) {x : Nat} (hx : x < 6) (v : Int32) : jxMet l y_H_hasVersion b_H_hasVersion 3 (some FieldType.boolean) (jrm 1) Θ [.inr (1, 0), .inl (nI x), .inl v] σ (jan (jB (jhv h x v)) σ) := by
  refine jxMet.of (own := "HistoryJudge$History") hI (by decide) rfl (Nat.le_of_ble_eq_true rfl) (fun Γ X => ?_)
  show jxW Γ Θ (jan (jB (jhv h x v)) σ) 0 [some (.inr (1, 0)), some (.inl (nI x)), some (.inl v)] [] σ
  have bV := jHw_V hw
  refine j_iload_n X (q := 1) d_H_hasVersion_0 rfl rfl ?_
  refine j_iconst X (v := (-1)) (q := 2) d_H_hasVersion_1 (by decide +kernel) rfl ?_
  refine j_icmp_ne X (tgt := 7) (q := 5) d_H_hasVersion_2 (by decide) rfl (fun h2 => ?_) (fun h2 => ?_)
  · have _b2 := True.intro
    refine j_iload_n X (q := 8) d_H_hasVersion_7 rfl rfl ?_
    refine j_if_lt X (tgt := 33) (q := 11) d_H_hasVersion_8 (by decide) rfl (fun h8 => ?_) (fun h8 => ?_)
    · have _b8 := True.intro
      have b : jhv h x v = false := by simp [jhv, h2, jin_neg h8]
      refine j_iconst X (v := (nI 0)) (q := 34) d_H_hasVersion_33 (by decide +kernel) rfl ?_
      refine j_zret X d_H_hasVersion_34 (by decide +kernel) ?_
      exact ⟨by rw [b]; rfl, rfl⟩
    · have _b8 := True.intro
      refine j_iload_n X (q := 12) d_H_hasVersion_11 rfl rfl ?_
      refine j_aload_n X (q := 13) d_H_hasVersion_12 rfl rfl ?_
      refine j_getI X (C := jR2) (T := jT2) (N := 12) (ci := 2) (j := 3) (q := 16) d_H_hasVersion_13 ju2 rfl rfl rfl (by decide) wl79 rfl (hC _ _ (by decide)) rfl (jHs_V hs) ?_
      refine j_icmp_ge X (tgt := 33) (q := 19) d_H_hasVersion_16 (by decide) rfl (fun h16 => ?_) (fun h16 => ?_)
      · have _b16 := True.intro
        have b : jhv h x v = false := by simp [jhv, h2, jin_big (show hyV h < 2 ^ 31 by omega) h16]
        refine j_iconst X (v := (nI 0)) (q := 34) d_H_hasVersion_33 (by decide +kernel) rfl ?_
        refine j_zret X d_H_hasVersion_34 (by decide +kernel) ?_
        exact ⟨by rw [b]; rfl, rfl⟩
      · have _b16 := True.intro
        obtain ⟨k, hk, ek⟩ := jin_of (jin_yes (show hyV h < 2 ^ 31 by omega) h8 h16) (by omega)
        have bk := jHw_I hw hk
        refine j_aload_n X (q := 20) d_H_hasVersion_19 rfl rfl ?_
        refine j_getR X (C := jR2) (T := jT2) (N := 12) (ci := 2) (j := 2) (q := 23) d_H_hasVersion_20 ju2 rfl rfl rfl (by decide) wl78 rfl (hC _ _ (by decide)) rfl ?_
        refine j_iload_n X (q := 24) d_H_hasVersion_23 rfl rfl ?_
        refine j_iald X (j := k) (q := 25) d_H_hasVersion_24 rfl (by decide) ek (by omega) (hC _ _ (by decide)) rfl (jHs_I hs hk) ?_
        refine j_iload_n X (q := 26) d_H_hasVersion_25 rfl rfl ?_
        refine j_icmp_ne X (tgt := 33) (q := 29) d_H_hasVersion_26 (by decide) rfl (fun h26 => ?_) (fun h26 => ?_)
        · have _b26 := True.intro
          have b : jhv h x v = false := by
            subst ek
            rw [nI_eq (by omega) (by omega)] at h26
            simp [jhv, h2, nI_clamp (show k < 2 ^ 31 by omega), h26]
          refine j_iconst X (v := (nI 0)) (q := 34) d_H_hasVersion_33 (by decide +kernel) rfl ?_
          refine j_zret X d_H_hasVersion_34 (by decide +kernel) ?_
          exact ⟨by rw [b]; rfl, rfl⟩
        · have _b26 := True.intro
          have b : jhv h x v = true := by
            have e2 := jin_yes (show hyV h < 2 ^ 31 by omega) h8 h16
            subst ek
            rw [nI_eq (by omega) (by omega)] at h26
            simp [jhv, e2, nI_clamp (show k < 2 ^ 31 by omega), h26]
          refine j_iconst X (v := (nI 1)) (q := 30) d_H_hasVersion_29 (by decide +kernel) rfl ?_
          refine j_goto X (tgt := 34) d_H_hasVersion_30 (by decide) ?_
          refine j_zret X d_H_hasVersion_34 (by decide +kernel) ?_
          exact ⟨by rw [b]; rfl, rfl⟩
  · have _b2 := True.intro
    have b : jhv h x v = true := by simp [jhv, h2]
    refine j_iconst X (v := (nI 1)) (q := 6) d_H_hasVersion_5 (by decide +kernel) rfl ?_
    refine j_zret X d_H_hasVersion_6 (by decide +kernel) ?_
    exact ⟨by rw [b]; rfl, rfl⟩
