/-! Leaves: the small static methods, filling, counting bits. -/
set_option maxRecDepth 100000 in
set_option maxHeartbeats 4000000 in
theorem c_J_only {l : Launch} {Θ : jxT} (hI : jxI Θ) {t : Nat} (ht : t < 8) (σ : jxM) : jxMet l y_J_only b_J_only 1 (some FieldType.int) (jrm 1) Θ [.inl (nI t)] σ (jan (bI (fun i => decide (i = t))) σ) := by
  refine jxMet.of (own := "HistoryJudge") hI (by decide) rfl (Nat.le_of_ble_eq_true rfl) (fun Γ X => ?_)
  show jxW Γ Θ (jan (bI (fun i => decide (i = t))) σ) 0 [some (.inl (nI t))] [] σ
  refine j_iconst X (v := (nI 1)) (q := 1) d_J_only_0 (by decide +kernel) rfl ?_
  refine j_iload_n X (q := 2) d_J_only_1 rfl rfl ?_
  refine j_ishl X (q := 3) d_J_only_2 rfl ?_
  refine j_iret X d_J_only_3 ?_
  exact ⟨by rw [← bI_one ht]; rfl, rfl⟩
set_option maxRecDepth 100000 in
set_option maxHeartbeats 4000000 in
theorem c_J_has {l : Launch} {Θ : jxT} (hI : jxI Θ) (S : Nat → Bool) {t : Nat} (ht : t < 8) (σ : jxM) : jxMet l y_J_has b_J_has 2 (some FieldType.boolean) (jrm 2) Θ [.inl (bI S), .inl (nI t)] σ (jan (jB (S t)) σ) := by
  refine jxMet.of (own := "HistoryJudge") hI (by decide) rfl (Nat.le_of_ble_eq_true rfl) (fun Γ X => ?_)
  show jxW Γ Θ (jan (jB (S t)) σ) 0 [some (.inl (bI S)), some (.inl (nI t))] [] σ
  refine j_iload_n X (q := 1) d_J_has_0 rfl rfl ?_
  refine j_iload_n X (q := 2) d_J_has_1 rfl rfl ?_
  refine j_callS X (n := 1) d_J_has_2 (c_J_only hI ht σ) wl226 wl207 wl36 wl208 (by decide +kernel) ⟨rfl, rfl⟩ (by decide) rfl rfl (Nat.le_of_ble_eq_true rfl) rfl (q := 5) rfl (fun r2 τ2 e2 => ?_)
  obtain ⟨rfl, rfl⟩ := e2
  refine j_iand X (q := 6) d_J_has_5 rfl ?_
  refine j_if_eq X (tgt := 13) (q := 9) d_J_has_6 (by decide) rfl (fun h6 => ?_) (fun h6 => ?_)
  · have _b6 := True.intro
    have e6 := (bI_has ht).mp h6
    refine j_iconst X (v := (nI 0)) (q := 14) d_J_has_13 (by decide +kernel) rfl ?_
    refine j_zret X d_J_has_14 (by decide +kernel) ?_
    exact ⟨by rw [e6]; rfl, rfl⟩
  · have _b6 := True.intro
    have e6 : S t = true := by
      cases e : S t with
      | true => rfl
      | false => exact absurd ((bI_has ht).mpr e) h6
    refine j_iconst X (v := (nI 1)) (q := 10) d_J_has_9 (by decide +kernel) rfl ?_
    refine j_goto X (tgt := 14) d_J_has_10 (by decide) ?_
    refine j_zret X d_J_has_14 (by decide +kernel) ?_
    exact ⟨by rw [e6]; rfl, rfl⟩
set_option maxRecDepth 100000 in
set_option maxHeartbeats 4000000 in
theorem c_J_isTransaction {l : Launch} {Θ : jxT} (hI : jxI Θ) (x : Int32) (σ : jxM) : jxMet l y_J_isTransaction b_J_isTransaction 1 (some FieldType.boolean) (jrm 1) Θ [.inl x] σ (jan (jB (jin x 8)) σ) := by
  refine jxMet.of (own := "HistoryJudge") hI (by decide) rfl (Nat.le_of_ble_eq_true rfl) (fun Γ X => ?_)
  show jxW Γ Θ (jan (jB (jin x 8)) σ) 0 [some (.inl x)] [] σ
  refine j_iload_n X (q := 1) d_J_isTransaction_0 rfl rfl ?_
  refine j_if_lt X (tgt := 14) (q := 4) d_J_isTransaction_1 (by decide) rfl (fun h1 => ?_) (fun h1 => ?_)
  · have _b1 := True.intro
    have e1 := jin_neg (n := 8) h1
    refine j_iconst X (v := (nI 0)) (q := 15) d_J_isTransaction_14 (by decide +kernel) rfl ?_
    refine j_zret X d_J_isTransaction_15 (by decide +kernel) ?_
    exact ⟨by rw [e1]; rfl, rfl⟩
  · have _b1 := True.intro
    refine j_iload_n X (q := 5) d_J_isTransaction_4 rfl rfl ?_
    refine j_bipush X (v := (nI 8)) (q := 7) d_J_isTransaction_5 (by decide +kernel) rfl ?_
    refine j_icmp_ge X (tgt := 14) (q := 10) d_J_isTransaction_7 (by decide) rfl (fun h7 => ?_) (fun h7 => ?_)
    · have _b7 := True.intro
      have e1 := jin_big (n := 8) (by decide) h7
      refine j_iconst X (v := (nI 0)) (q := 15) d_J_isTransaction_14 (by decide +kernel) rfl ?_
      refine j_zret X d_J_isTransaction_15 (by decide +kernel) ?_
      exact ⟨by rw [e1]; rfl, rfl⟩
    · have _b7 := True.intro
      have e1 := jin_yes (n := 8) (by decide) h1 h7
      refine j_iconst X (v := (nI 1)) (q := 11) d_J_isTransaction_10 (by decide +kernel) rfl ?_
      refine j_goto X (tgt := 15) d_J_isTransaction_11 (by decide) ?_
      refine j_zret X d_J_isTransaction_15 (by decide +kernel) ?_
      exact ⟨by rw [e1]; rfl, rfl⟩
set_option maxRecDepth 100000 in
set_option maxHeartbeats 4000000 in
theorem c_J_isItem {l : Launch} {Θ : jxT} (hI : jxI Θ) (x : Int32) (σ : jxM) : jxMet l y_J_isItem b_J_isItem 1 (some FieldType.boolean) (jrm 1) Θ [.inl x] σ (jan (jB (jin x 6)) σ) := by
  refine jxMet.of (own := "HistoryJudge") hI (by decide) rfl (Nat.le_of_ble_eq_true rfl) (fun Γ X => ?_)
  show jxW Γ Θ (jan (jB (jin x 6)) σ) 0 [some (.inl x)] [] σ
  refine j_iload_n X (q := 1) d_J_isItem_0 rfl rfl ?_
  refine j_if_lt X (tgt := 14) (q := 4) d_J_isItem_1 (by decide) rfl (fun h1 => ?_) (fun h1 => ?_)
  · have _b1 := True.intro
    have e1 := jin_neg (n := 6) h1
    refine j_iconst X (v := (nI 0)) (q := 15) d_J_isItem_14 (by decide +kernel) rfl ?_
    refine j_zret X d_J_isItem_15 (by decide +kernel) ?_
    exact ⟨by rw [e1]; rfl, rfl⟩
  · have _b1 := True.intro
    refine j_iload_n X (q := 5) d_J_isItem_4 rfl rfl ?_
    refine j_bipush X (v := (nI 6)) (q := 7) d_J_isItem_5 (by decide +kernel) rfl ?_
    refine j_icmp_ge X (tgt := 14) (q := 10) d_J_isItem_7 (by decide) rfl (fun h7 => ?_) (fun h7 => ?_)
    · have _b7 := True.intro
      have e1 := jin_big (n := 6) (by decide) h7
      refine j_iconst X (v := (nI 0)) (q := 15) d_J_isItem_14 (by decide +kernel) rfl ?_
      refine j_zret X d_J_isItem_15 (by decide +kernel) ?_
      exact ⟨by rw [e1]; rfl, rfl⟩
    · have _b7 := True.intro
      have e1 := jin_yes (n := 6) (by decide) h1 h7
      refine j_iconst X (v := (nI 1)) (q := 11) d_J_isItem_10 (by decide +kernel) rfl ?_
      refine j_goto X (tgt := 15) d_J_isItem_11 (by decide) ?_
      refine j_zret X d_J_isItem_15 (by decide +kernel) ?_
      exact ⟨by rw [e1]; rfl, rfl⟩
set_option maxRecDepth 100000 in
set_option maxHeartbeats 4000000 in
theorem c_M_isOne {l : Launch} {Θ : jxT} (hI : jxI Θ) (x : Int32) (σ : jxM) : jxMet l y_M_isOne b_M_isOne 1 (some FieldType.boolean) (jrm 1) Θ [.inl x] σ (jan (jB (jin x 8)) σ) := by
  refine jxMet.of (own := "HistoryJudgeModel") hI (by decide) rfl (Nat.le_of_ble_eq_true rfl) (fun Γ X => ?_)
  show jxW Γ Θ (jan (jB (jin x 8)) σ) 0 [some (.inl x)] [] σ
  refine j_iload_n X (q := 1) d_M_isOne_0 rfl rfl ?_
  refine j_if_lt X (tgt := 14) (q := 4) d_M_isOne_1 (by decide) rfl (fun h1 => ?_) (fun h1 => ?_)
  · have _b1 := True.intro
    have e1 := jin_neg (n := 8) h1
    refine j_iconst X (v := (nI 0)) (q := 15) d_M_isOne_14 (by decide +kernel) rfl ?_
    refine j_zret X d_M_isOne_15 (by decide +kernel) ?_
    exact ⟨by rw [e1]; rfl, rfl⟩
  · have _b1 := True.intro
    refine j_iload_n X (q := 5) d_M_isOne_4 rfl rfl ?_
    refine j_bipush X (v := (nI 8)) (q := 7) d_M_isOne_5 (by decide +kernel) rfl ?_
    refine j_icmp_ge X (tgt := 14) (q := 10) d_M_isOne_7 (by decide) rfl (fun h7 => ?_) (fun h7 => ?_)
    · have _b7 := True.intro
      have e1 := jin_big (n := 8) (by decide) h7
      refine j_iconst X (v := (nI 0)) (q := 15) d_M_isOne_14 (by decide +kernel) rfl ?_
      refine j_zret X d_M_isOne_15 (by decide +kernel) ?_
      exact ⟨by rw [e1]; rfl, rfl⟩
    · have _b7 := True.intro
      have e1 := jin_yes (n := 8) (by decide) h1 h7
      refine j_iconst X (v := (nI 1)) (q := 11) d_M_isOne_10 (by decide +kernel) rfl ?_
      refine j_goto X (tgt := 15) d_M_isOne_11 (by decide) ?_
      refine j_zret X d_M_isOne_15 (by decide +kernel) ?_
      exact ⟨by rw [e1]; rfl, rfl⟩
set_option maxRecDepth 100000 in
set_option maxHeartbeats 4000000 in
theorem c_M_isItem {l : Launch} {Θ : jxT} (hI : jxI Θ) (x : Int32) (σ : jxM) : jxMet l y_M_isItem b_M_isItem 1 (some FieldType.boolean) (jrm 1) Θ [.inl x] σ (jan (jB (jin x 6)) σ) := by
  refine jxMet.of (own := "HistoryJudgeModel") hI (by decide) rfl (Nat.le_of_ble_eq_true rfl) (fun Γ X => ?_)
  show jxW Γ Θ (jan (jB (jin x 6)) σ) 0 [some (.inl x)] [] σ
  refine j_iload_n X (q := 1) d_M_isItem_0 rfl rfl ?_
  refine j_if_lt X (tgt := 14) (q := 4) d_M_isItem_1 (by decide) rfl (fun h1 => ?_) (fun h1 => ?_)
  · have _b1 := True.intro
    have e1 := jin_neg (n := 6) h1
    refine j_iconst X (v := (nI 0)) (q := 15) d_M_isItem_14 (by decide +kernel) rfl ?_
    refine j_zret X d_M_isItem_15 (by decide +kernel) ?_
    exact ⟨by rw [e1]; rfl, rfl⟩
  · have _b1 := True.intro
    refine j_iload_n X (q := 5) d_M_isItem_4 rfl rfl ?_
    refine j_bipush X (v := (nI 6)) (q := 7) d_M_isItem_5 (by decide +kernel) rfl ?_
    refine j_icmp_ge X (tgt := 14) (q := 10) d_M_isItem_7 (by decide) rfl (fun h7 => ?_) (fun h7 => ?_)
    · have _b7 := True.intro
      have e1 := jin_big (n := 6) (by decide) h7
      refine j_iconst X (v := (nI 0)) (q := 15) d_M_isItem_14 (by decide +kernel) rfl ?_
      refine j_zret X d_M_isItem_15 (by decide +kernel) ?_
      exact ⟨by rw [e1]; rfl, rfl⟩
    · have _b7 := True.intro
      have e1 := jin_yes (n := 6) (by decide) h1 h7
      refine j_iconst X (v := (nI 1)) (q := 11) d_M_isItem_10 (by decide +kernel) rfl ?_
      refine j_goto X (tgt := 15) d_M_isItem_11 (by decide) ?_
      refine j_zret X d_M_isItem_15 (by decide +kernel) ?_
      exact ⟨by rw [e1]; rfl, rfl⟩
set_option maxRecDepth 100000 in
set_option maxHeartbeats 4000000 in
theorem c_J_least {l : Launch} {Θ : jxT} (hI : jxI Θ) (S : Nat → Bool) (σ : jxM) : jxMet l y_J_least b_J_least 2 (some FieldType.int) (jrm 3) Θ [.inl (bI S)] σ (fun r σ' => ∃ k, k < 8 ∧ r = some (.inl (nI k)) ∧ σ = σ' ∧ ((∃ t, t < 8 ∧ S t = true) → S k = true ∧ ∀ u, u < k → S u = false)) := by
  refine jxMet.of (own := "HistoryJudge") hI (by decide) rfl (Nat.le_of_ble_eq_true rfl) (fun Γ X => ?_)
  show jxW Γ Θ (fun r σ' => ∃ k, k < 8 ∧ r = some (.inl (nI k)) ∧ σ = σ' ∧ ((∃ t, t < 8 ∧ S t = true) → S k = true ∧ ∀ u, u < k → S u = false)) 0 [some (.inl (bI S)), none] [] σ
  have K : ∀ (N : Nat) (t : Nat), 8 - t < N → t ≤ 7 → (∀ u, u < t → S u = false) → jxW Γ Θ (fun r σ' => ∃ k, k < 8 ∧ r = some (.inl (nI k)) ∧ σ = σ' ∧ ((∃ t, t < 8 ∧ S t = true) → S k = true ∧ ∀ u, u < k → S u = false)) 2 [some (.inl (bI S)), some (.inl (nI t))] [] σ := by
    intro N
    induction N with
    | zero => intro t hn; exact absurd hn (Nat.not_lt_zero _)
    | succ N ih =>
      intro t hn ht hlow
      refine j_iload_n X (q := 3) d_J_least_2 rfl rfl ?_
      refine j_bipush X (v := (nI 7)) (q := 5) d_J_least_3 (by decide +kernel) rfl ?_
      refine j_ncmp_ge X (tgt := 22) (q := 8) d_J_least_5 (by decide) rfl (by omega) (by omega) (fun h5 => ?_) (fun h5 => ?_)
      · have _b5 := True.intro
        refine j_iload_n X (q := 23) d_J_least_22 rfl rfl ?_
        refine j_iret X d_J_least_23 ?_
        refine ⟨t, by omega, rfl, rfl, fun hex => ⟨?_, hlow⟩⟩
        first
          | exact h13
          | (obtain ⟨u, hu, hSu⟩ := hex
             have : u = t := by
               by_cases q : u < t
               · rw [hlow u q] at hSu; cases hSu
               · omega
             rw [← this]; exact hSu)
      · have _b5 := True.intro
        refine j_iload_n X (q := 9) d_J_least_8 rfl rfl ?_
        refine j_iload_n X (q := 10) d_J_least_9 rfl rfl ?_
        refine j_callS X (n := 2) d_J_least_10 (c_J_has hI S (t := t) (by omega) σ) wl223 wl224 wl36 wl225 (by decide +kernel) ⟨rfl, rfl⟩ (by decide) rfl rfl (Nat.le_of_ble_eq_true rfl) rfl (q := 13) rfl (fun r10 τ10 e10 => ?_)
        obtain ⟨rfl, rfl⟩ := e10
        refine j_bif_ne X (tgt := 22) (q := 16) d_J_least_13 (by decide) rfl (fun h13 => ?_) (fun h13 => ?_)
        · have _b13 := True.intro
          refine j_iload_n X (q := 23) d_J_least_22 rfl rfl ?_
          refine j_iret X d_J_least_23 ?_
          refine ⟨t, by omega, rfl, rfl, fun hex => ⟨?_, hlow⟩⟩
          first
            | exact h13
            | (obtain ⟨u, hu, hSu⟩ := hex
               have : u = t := by
                 by_cases q : u < t
                 · rw [hlow u q] at hSu; cases hSu
                 · omega
               rw [← this]; exact hSu)
        · have _b13 := True.intro
          refine j_iinc X (q := 19) d_J_least_16 rfl (j_inc1 _) rfl ?_
          refine j_goto X (tgt := 2) d_J_least_19 (by decide) ?_
          exact ih (t + 1) (by omega) (by omega) (fun u hu => by
            by_cases q : u = t
            · rw [q]; exact h13
            · exact hlow u (by omega))
  refine j_iconst X (v := (nI 0)) (q := 1) d_J_least_0 (by decide +kernel) rfl ?_
  refine j_istore_n X (j := 1) (q := 2) d_J_least_1 rfl (Nat.le_of_ble_eq_true rfl) rfl ?_
  exact K 9 0 (by omega) (by omega) (fun u hu => by omega)
set_option maxRecDepth 100000 in
set_option maxHeartbeats 4000000 in
theorem c_A_fill {l : Launch} {Θ : jxT} (hI : jxI Θ) {g r n : Nat} (hk : jxk g = .inr (.inl (0, n))) (hn0 : n < 2 ^ 31) (hp : Θ.2.2.2 g r) (x : Int32) (σ : jxM) : jxMet l y_A_fill b_A_fill 4 none (jrm 1) Θ [.inr (g, r), .inl x] σ (jvo (jfl σ g r n x)) := by
  refine jxMet.of (own := "java/util/Arrays") hI (by decide) rfl (Nat.le_of_ble_eq_true rfl) (fun Γ X => ?_)
  show jxW Γ Θ (jvo (jfl σ g r n x)) 0 [some (.inr (g, r)), some (.inl x), none, none] [] σ
  have K : ∀ (N : Nat) (i : Nat), n - i < N → i ≤ n → jxW Γ Θ (jvo (jfl σ g r n x)) 5 [some (.inr (g, r)), some (.inl x), some (.inl (nI i)), some (.inl (nI n))] [] (jfl σ g r i x) := by
    intro N
    induction N with
    | zero => intro i hn; exact absurd hn (Nat.not_lt_zero _)
    | succ N ih =>
      intro i hn hi
      refine j_iload_n X (q := 6) d_A_fill_5 rfl rfl ?_
      refine j_iload_n X (q := 7) d_A_fill_6 rfl rfl ?_
      refine j_ncmp_ge X (tgt := 20) (q := 10) d_A_fill_7 (by decide) rfl (by omega) (by omega) (fun h7 => ?_) (fun h7 => ?_)
      · have _b7 := True.intro
        refine j_vret X d_A_fill_20 ?_
        have e : i = n := by omega
        subst e
        exact ⟨rfl, rfl⟩
      · have _b7 := True.intro
        refine j_aload_n X (q := 11) d_A_fill_10 rfl rfl ?_
        refine j_iload_n X (q := 12) d_A_fill_11 rfl rfl ?_
        refine j_iload_n X (q := 13) d_A_fill_12 rfl rfl ?_
        refine j_iast X (q := 14) d_A_fill_13 hk hn0 rfl (by omega) hp rfl ?_
        refine j_iinc X (q := 17) d_A_fill_14 rfl (j_inc1 _) rfl ?_
        refine j_goto X (tgt := 5) d_A_fill_17 (by decide) ?_
        refine jxW.cast rfl rfl (jfl_succ σ g r i x) ?_
        exact ih (i + 1) (by omega) (by omega)
  refine j_iconst X (v := (nI 0)) (q := 1) d_A_fill_0 (by decide +kernel) rfl ?_
  refine j_istore_n X (j := 2) (q := 2) d_A_fill_1 rfl (Nat.le_of_ble_eq_true rfl) rfl ?_
  refine j_aload_n X (q := 3) d_A_fill_2 rfl rfl ?_
  refine j_alen X (q := 4) d_A_fill_3 hk hp rfl ?_
  refine j_istore_n X (j := 3) (q := 5) d_A_fill_4 rfl (Nat.le_of_ble_eq_true rfl) rfl ?_
  refine jxW.cast rfl rfl (jfl_0 σ g r x).symm ?_
  exact K (n + 1) 0 (by omega) (by omega)
def jbc (x : Int32) : Int32 :=
  let a := x - ((x.toUInt32 >>> ((nI 1).toUInt32 &&& Int32.toUInt32 31)).toInt32 &&& 1431655765)
  let b := (a &&& 858993459) + ((a.toUInt32 >>> ((nI 2).toUInt32 &&& Int32.toUInt32 31)).toInt32 &&& 858993459)
  let c := (b + (b.toUInt32 >>> ((nI 4).toUInt32 &&& Int32.toUInt32 31)).toInt32) &&& 252645135
  let d := c + (c.toUInt32 >>> ((nI 8).toUInt32 &&& Int32.toUInt32 31)).toInt32
  (d + (d.toUInt32 >>> ((nI 16).toUInt32 &&& Int32.toUInt32 31)).toInt32) &&& nI 63
set_option maxRecDepth 100000 in
set_option maxHeartbeats 4000000 in
theorem c_I_bitCount {l : Launch} {Θ : jxT} (hI : jxI Θ) (x : Int32) (σ : jxM) : jxMet l y_I_bitCount b_I_bitCount 1 (some FieldType.int) (jrm 1) Θ [.inl x] σ (jan (jbc x) σ) := by
  refine jxMet.of (own := "java/lang/Integer") hI (by decide) rfl (Nat.le_of_ble_eq_true rfl) (fun Γ X => ?_)
  show jxW Γ Θ (jan (jbc x) σ) 0 [some (.inl x)] [] σ
  refine j_iload_n X (q := 1) d_I_bitCount_0 rfl rfl ?_
  refine j_iload_n X (q := 2) d_I_bitCount_1 rfl rfl ?_
  refine j_iconst X (v := (nI 1)) (q := 3) d_I_bitCount_2 (by decide +kernel) rfl ?_
  refine j_iushr X (q := 4) d_I_bitCount_3 rfl rfl ?_
  refine j_ldcw X (q := 7) d_I_bitCount_4 wl341 rfl ?_
  refine j_iand X (q := 8) d_I_bitCount_7 rfl ?_
  refine j_isub X (q := 9) d_I_bitCount_8 rfl ?_
  refine j_istore_n X (j := 0) (q := 10) d_I_bitCount_9 rfl (Nat.le_of_ble_eq_true rfl) rfl ?_
  refine j_iload_n X (q := 11) d_I_bitCount_10 rfl rfl ?_
  refine j_ldcw X (q := 14) d_I_bitCount_11 wl342 rfl ?_
  refine j_iand X (q := 15) d_I_bitCount_14 rfl ?_
  refine j_iload_n X (q := 16) d_I_bitCount_15 rfl rfl ?_
  refine j_iconst X (v := (nI 2)) (q := 17) d_I_bitCount_16 (by decide +kernel) rfl ?_
  refine j_iushr X (q := 18) d_I_bitCount_17 rfl rfl ?_
  refine j_ldcw X (q := 21) d_I_bitCount_18 wl342 rfl ?_
  refine j_iand X (q := 22) d_I_bitCount_21 rfl ?_
  refine j_iadd X (q := 23) d_I_bitCount_22 rfl ?_
  refine j_istore_n X (j := 0) (q := 24) d_I_bitCount_23 rfl (Nat.le_of_ble_eq_true rfl) rfl ?_
  refine j_iload_n X (q := 25) d_I_bitCount_24 rfl rfl ?_
  refine j_iload_n X (q := 26) d_I_bitCount_25 rfl rfl ?_
  refine j_iconst X (v := (nI 4)) (q := 27) d_I_bitCount_26 (by decide +kernel) rfl ?_
  refine j_iushr X (q := 28) d_I_bitCount_27 rfl rfl ?_
  refine j_iadd X (q := 29) d_I_bitCount_28 rfl ?_
  refine j_ldcw X (q := 32) d_I_bitCount_29 wl343 rfl ?_
  refine j_iand X (q := 33) d_I_bitCount_32 rfl ?_
  refine j_istore_n X (j := 0) (q := 34) d_I_bitCount_33 rfl (Nat.le_of_ble_eq_true rfl) rfl ?_
  refine j_iload_n X (q := 35) d_I_bitCount_34 rfl rfl ?_
  refine j_iload_n X (q := 36) d_I_bitCount_35 rfl rfl ?_
  refine j_bipush X (v := (nI 8)) (q := 38) d_I_bitCount_36 (by decide +kernel) rfl ?_
  refine j_iushr X (q := 39) d_I_bitCount_38 rfl rfl ?_
  refine j_iadd X (q := 40) d_I_bitCount_39 rfl ?_
  refine j_istore_n X (j := 0) (q := 41) d_I_bitCount_40 rfl (Nat.le_of_ble_eq_true rfl) rfl ?_
  refine j_iload_n X (q := 42) d_I_bitCount_41 rfl rfl ?_
  refine j_iload_n X (q := 43) d_I_bitCount_42 rfl rfl ?_
  refine j_bipush X (v := (nI 16)) (q := 45) d_I_bitCount_43 (by decide +kernel) rfl ?_
  refine j_iushr X (q := 46) d_I_bitCount_45 rfl rfl ?_
  refine j_iadd X (q := 47) d_I_bitCount_46 rfl ?_
  refine j_istore_n X (j := 0) (q := 48) d_I_bitCount_47 rfl (Nat.le_of_ble_eq_true rfl) rfl ?_
  refine j_iload_n X (q := 49) d_I_bitCount_48 rfl rfl ?_
  refine j_bipush X (v := (nI 63)) (q := 51) d_I_bitCount_49 (by decide +kernel) rfl ?_
  refine j_iand X (q := 52) d_I_bitCount_51 rfl ?_
  refine j_iret X d_I_bitCount_52 ?_
  exact ⟨rfl, rfl⟩
