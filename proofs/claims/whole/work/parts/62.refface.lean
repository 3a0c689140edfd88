/-! The reference's moves: state, version, exchange, clear, write, read, end. -/
/-- the codes of write, read, end -/
def jwc (h : jH) (a b : Int32) : Nat := if jin a 8 = true ∧ jin b 6 = true then (if 1 < hyS h a.toNatClampNeg then 2 else if hyV h = 40 then 3 else 0) else 1
def jrc (h : jH) (a b y : Int32) : Nat := if jin a 8 = true ∧ jin b 6 = true then (if jhv h b.toNatClampNeg y = true then (if 1 < hyS h a.toNatClampNeg then 3 else if hyR h = 60 then 4 else 0) else 2) else 1
def jec (h : jH) (a : Int32) : Nat := if jin a 8 = true then (if hyS h a.toNatClampNeg = 1 then 0 else 2) else 1
/-- the version that an int names -/
def jyO (y : Int32) : Option Nat := if y = -1 then none else some y.toNatClampNeg
theorem jhv_o {h : jH} {x : Nat} {y : Int32} (hV : hyV h < 2 ^ 31) (q : jhv h x y = true) : y = vI (jyO y) ∧ ∀ w, jyO y = some w → w < hyV h ∧ hyI h w = x := by
  unfold jyO
  unfold jhv at q
  by_cases e : y = -1
  · subst e; exact ⟨rfl, fun w z => by rw [if_pos rfl] at z; cases z⟩
  · rw [if_neg e]
    rw [decide_eq_false e, Bool.false_or, Bool.and_eq_true] at q
    obtain ⟨k, hk, rfl⟩ := jin_of q.1 hV
    have c := nI_clamp (show k < 2 ^ 31 by omega)
    rw [c] at q ⊢
    exact ⟨rfl, fun w z => by cases z; exact ⟨hk, of_decide_eq_true q.2⟩⟩
theorem jwc_0 {h : jH} {a b : Int32} (q : jwc h a b = 0) : ∃ t x, t < 8 ∧ x < 6 ∧ a = nI t ∧ b = nI x ∧ a.toNatClampNeg = t ∧ b.toNatClampNeg = x ∧ ¬ 1 < hyS h t ∧ hyV h ≠ 40 := by
  unfold jwc at q
  by_cases c : jin a 8 = true ∧ jin b 6 = true
  · rw [if_pos c] at q
    obtain ⟨t, ht, rfl⟩ := jin_of c.1 (by decide)
    obtain ⟨x, hx, rfl⟩ := jin_of c.2 (by decide)
    rw [nI_clamp (by omega)] at q
    by_cases d : 1 < hyS h t
    · rw [if_pos d] at q; cases q
    · rw [if_neg d] at q
      by_cases e : hyV h = 40
      · rw [if_pos e] at q; cases q
      · exact ⟨t, x, ht, hx, rfl, rfl, nI_clamp (by omega), nI_clamp (by omega), d, e⟩
  · rw [if_neg c] at q; cases q
theorem jrc_0 {h : jH} {a b y : Int32} (q : jrc h a b y = 0) : ∃ t x, t < 8 ∧ x < 6 ∧ a = nI t ∧ b = nI x ∧ a.toNatClampNeg = t ∧ b.toNatClampNeg = x ∧ jhv h x y = true ∧ ¬ 1 < hyS h t ∧ hyR h ≠ 60 := by
  unfold jrc at q
  by_cases c : jin a 8 = true ∧ jin b 6 = true
  · rw [if_pos c] at q
    obtain ⟨t, ht, rfl⟩ := jin_of c.1 (by decide)
    obtain ⟨x, hx, rfl⟩ := jin_of c.2 (by decide)
    rw [nI_clamp (show t < 2 ^ 31 by omega), nI_clamp (show x < 2 ^ 31 by omega)] at q
    by_cases f : jhv h x y = true
    · rw [if_pos f] at q
      by_cases d : 1 < hyS h t
      · rw [if_pos d] at q; cases q
      · rw [if_neg d] at q
        by_cases e : hyR h = 60
        · rw [if_pos e] at q; cases q
        · exact ⟨t, x, ht, hx, rfl, rfl, nI_clamp (by omega), nI_clamp (by omega), f, d, e⟩
    · rw [if_neg f] at q; cases q
  · rw [if_neg c] at q; cases q
theorem jec_0 {h : jH} {a : Int32} (q : jec h a = 0) : ∃ t, t < 8 ∧ a = nI t ∧ a.toNatClampNeg = t ∧ hyS h t = 1 := by
  unfold jec at q
  by_cases c : jin a 8 = true
  · rw [if_pos c] at q
    obtain ⟨t, ht, rfl⟩ := jin_of c (by decide)
    rw [nI_clamp (by omega)] at q
    by_cases d : hyS h t = 1
    · exact ⟨t, ht, rfl, nI_clamp (by omega), d⟩
    · rw [if_neg d] at q; cases q
  · rw [if_neg c] at q; cases q
theorem jwc_4 (h : jH) (a b : Int32) : jwc h a b < 4 := by unfold jwc; repeat' split
                                                           all_goals omega
theorem jrc_5 (h : jH) (a b y : Int32) : jrc h a b y < 5 := by unfold jrc; repeat' split
                                                               all_goals omega
theorem jec_3 (h : jH) (a : Int32) : jec h a < 3 := by unfold jec; repeat' split
                                                       all_goals omega
set_option maxRecDepth 100000 in
set_option maxHeartbeats 4000000 in
theorem c_M_thrown {l : Launch} {Θ : jxT} (hI : jxI Θ) (hC : ∀ g r, r < jrwM g → Θ.2.2.2 g r) (σ : jxM) : jxMet l y_M_thrown b_M_thrown 1 (some FieldType.int) (jrm 1) Θ [.inr (40, 0)] σ (jan (σ 40 0 0) σ) := by
  refine jxMet.of (own := "HistoryJudgeModel") hI (by decide) rfl (Nat.le_of_ble_eq_true rfl) (fun Γ X => ?_)
  show jxW Γ Θ (jan (σ 40 0 0) σ) 0 [some (.inr (40, 0))] [] σ
  refine j_aload_n X (q := 1) d_M_thrown_0 rfl rfl ?_
  refine j_getI X (C := jR5) (T := jT5) (N := 18) (ci := 5) (j := 0) (q := 4) d_M_thrown_1 ju5 rfl rfl rfl (by decide) wl483 rfl (hC _ _ (by decide)) rfl rfl ?_
  refine j_iret X d_M_thrown_4 ?_
  exact ⟨rfl, rfl⟩
set_option maxRecDepth 100000 in
set_option maxHeartbeats 4000000 in
theorem c_M_state {l : Launch} {Θ : jxT} (hI : jxI Θ) (hC : ∀ g r, r < jrwM g → Θ.2.2.2 g r) {h : jH} {v : jV} {σ : jxM} (hw : jHw h) (hv : jVc h v) (hm : jMs h v σ) (x : Int32) : jxMet l y_M_state b_M_state 2 (some FieldType.int) (jrm 2) Θ [.inr (40, 0), .inl x] σ (fun r' σ' => r' = some (.inl (if jin x 8 = true then nI (hyS h x.toNatClampNeg) else -1)) ∧ jfm σ σ') := by
  refine jxMet.of (own := "HistoryJudgeModel") hI (by decide) rfl (Nat.le_of_ble_eq_true rfl) (fun Γ X => ?_)
  show jxW Γ Θ (fun r' σ' => r' = some (.inl (if jin x 8 = true then nI (hyS h x.toNatClampNeg) else -1)) ∧ jfm σ σ') 0 [some (.inr (40, 0)), some (.inl x)] [] σ
  refine j_aload_n X (q := 1) d_M_state_0 rfl rfl ?_
  refine j_iconst X (v := (nI 0)) (q := 2) d_M_state_1 (by decide +kernel) rfl ?_
  refine j_putI X (C := jR5) (T := jT5) (N := 18) (ci := 5) (j := 0) (q := 5) d_M_state_2 ju5 rfl rfl jt5 jt5_ok jn5 rfl (by decide) wl483 rfl (hC _ _ (by decide)) rfl rfl (ty := .int) rfl rfl rfl ?_
  refine j_iload_n X (q := 6) d_M_state_5 rfl rfl ?_
  refine j_callS X (n := 1) d_M_state_6 (c_M_isOne hI x _) wl528 wl529 wl42 wl530 (by decide +kernel) ⟨rfl, rfl⟩ (by decide) rfl rfl (Nat.le_of_ble_eq_true rfl) rfl (q := 9) rfl (fun r6 τ6 e6 => ?_)
  obtain ⟨rfl, rfl⟩ := e6
  refine j_bif_eq X (tgt := 21) (q := 12) d_M_state_9 (by decide) rfl (fun h9 => ?_) (fun h9 => ?_)
  · have _b9 := True.intro
    refine j_iconst X (v := (-1)) (q := 22) d_M_state_21 (by decide +kernel) rfl ?_
    refine j_iret X d_M_state_22 ?_
    exact ⟨by rw [if_neg (by rw [h9]; exact Bool.false_ne_true)], jfm_c⟩
  · have _b9 := True.intro
    obtain ⟨k, hk, rfl⟩ := jin_of h9 (by decide)
    refine j_aload_n X (q := 13) d_M_state_12 rfl rfl ?_
    refine j_getR X (C := jR5) (T := jT5) (N := 18) (ci := 5) (j := 1) (q := 16) d_M_state_13 ju5 rfl rfl rfl (by decide) wl484 rfl (hC _ _ (by decide)) rfl ?_
    refine j_iload_n X (q := 17) d_M_state_16 rfl rfl ?_
    refine j_iald X (q := 18) d_M_state_17 rfl (by decide) rfl hk (hC _ _ (by decide)) rfl (jMs_S (jMs_code hm) hk) ?_
    refine j_goto X (tgt := 22) d_M_state_18 (by decide) ?_
    refine j_iret X d_M_state_22 ?_
    exact ⟨by rw [if_pos h9, nI_clamp (by omega)], jfm_c⟩
set_option maxRecDepth 100000 in
set_option maxHeartbeats 4000000 in
theorem c_M_version {l : Launch} {Θ : jxT} (hI : jxI Θ) (hC : ∀ g r, r < jrwM g → Θ.2.2.2 g r) {h : jH} {v : jV} {σ : jxM} (hw : jHw h) (hv : jVc h v) (hm : jMs h v σ) (x i : Int32) : jxMet l y_M_version b_M_version 3 (some FieldType.int) (jrm 2) Θ [.inr (40, 0), .inl x, .inl i] σ (fun r' σ' => r' = some (.inl (if jin x 6 = true ∧ jin i (hyon h x.toNatClampNeg) = true then nI (hyod h x.toNatClampNeg i.toNatClampNeg) else -1)) ∧ jfm σ σ') := by
  refine jxMet.of (own := "HistoryJudgeModel") hI (by decide) rfl (Nat.le_of_ble_eq_true rfl) (fun Γ X => ?_)
  show jxW Γ Θ (fun r' σ' => r' = some (.inl (if jin x 6 = true ∧ jin i (hyon h x.toNatClampNeg) = true then nI (hyod h x.toNatClampNeg i.toNatClampNeg) else -1)) ∧ jfm σ σ') 0 [some (.inr (40, 0)), some (.inl x), some (.inl i)] [] σ
  refine j_aload_n X (q := 1) d_M_version_0 rfl rfl ?_
  refine j_iconst X (v := (nI 0)) (q := 2) d_M_version_1 (by decide +kernel) rfl ?_
  refine j_putI X (C := jR5) (T := jT5) (N := 18) (ci := 5) (j := 0) (q := 5) d_M_version_2 ju5 rfl rfl jt5 jt5_ok jn5 rfl (by decide) wl483 rfl (hC _ _ (by decide)) rfl rfl (ty := .int) rfl rfl rfl ?_
  refine j_iload_n X (q := 6) d_M_version_5 rfl rfl ?_
  refine j_callS X (n := 1) d_M_version_6 (c_M_isItem hI x _) wl531 wl532 wl42 wl533 (by decide +kernel) ⟨rfl, rfl⟩ (by decide) rfl rfl (Nat.le_of_ble_eq_true rfl) rfl (q := 9) rfl (fun r6 τ6 e6 => ?_)
  obtain ⟨rfl, rfl⟩ := e6
  refine j_bif_eq X (tgt := 40) (q := 12) d_M_version_9 (by decide) rfl (fun h9 => ?_) (fun h9 => ?_)
  · have _b9 := True.intro
    refine j_iconst X (v := (-1)) (q := 41) d_M_version_40 (by decide +kernel) rfl ?_
    refine j_iret X d_M_version_41 ?_
    exact ⟨by rw [if_neg (fun q => by rw [h9] at q; cases q.1)], jfm_c⟩
  · have _b9 := True.intro
    obtain ⟨k, hk, rfl⟩ := jin_of h9 (by decide)
    have ck : (nI k).toNatClampNeg = k := nI_clamp (by omega)
    have bO := jHw_on hw hk
    refine j_iload_n X (q := 13) d_M_version_12 rfl rfl ?_
    refine j_if_lt X (tgt := 40) (q := 16) d_M_version_13 (by decide) rfl (fun h13 => ?_) (fun h13 => ?_)
    · have _b13 := True.intro
      have hb : ¬ (jin (nI k) 6 = true ∧ jin i (hyon h (nI k).toNatClampNeg) = true) := fun q => by rw [jin_neg h13] at q; cases q.2
      refine j_iconst X (v := (-1)) (q := 41) d_M_version_40 (by decide +kernel) rfl ?_
      refine j_iret X d_M_version_41 ?_
      exact ⟨by rw [if_neg hb], jfm_c⟩
    · have _b13 := True.intro
      refine j_iload_n X (q := 17) d_M_version_16 rfl rfl ?_
      refine j_aload_n X (q := 18) d_M_version_17 rfl rfl ?_
      refine j_getR X (C := jR5) (T := jT5) (N := 18) (ci := 5) (j := 11) (q := 21) d_M_version_18 ju5 rfl rfl rfl (by decide) wl494 rfl (hC _ _ (by decide)) rfl ?_
      refine j_iload_n X (q := 22) d_M_version_21 rfl rfl ?_
      refine j_iald X (q := 23) d_M_version_22 rfl (by decide) rfl hk (hC _ _ (by decide)) rfl (jMs_on (jMs_code hm) hk) ?_
      refine j_icmp_ge X (tgt := 40) (q := 26) d_M_version_23 (by decide) rfl (fun h23 => ?_) (fun h23 => ?_)
      · have _b23 := True.intro
        have hb : ¬ (jin (nI k) 6 = true ∧ jin i (hyon h (nI k).toNatClampNeg) = true) := fun q => by rw [ck, jin_big (by omega) h23] at q; cases q.2
        refine j_iconst X (v := (-1)) (q := 41) d_M_version_40 (by decide +kernel) rfl ?_
        refine j_iret X d_M_version_41 ?_
        exact ⟨by rw [if_neg hb], jfm_c⟩
      · have _b23 := True.intro
        have hin : jin i (hyon h k) = true := jin_yes (by omega) h13 h23
        obtain ⟨j, hj, rfl⟩ := jin_of hin (by omega)
        refine j_aload_n X (q := 27) d_M_version_26 rfl rfl ?_
        refine j_getR X (C := jR5) (T := jT5) (N := 18) (ci := 5) (j := 12) (q := 30) d_M_version_27 ju5 rfl rfl rfl (by decide) wl495 rfl (hC _ _ (by decide)) rfl ?_
        refine j_bipush X (v := (nI 8)) (q := 32) d_M_version_30 (by decide +kernel) rfl ?_
        refine j_iload_n X (q := 33) d_M_version_32 rfl rfl ?_
        refine j_imul X (q := 34) d_M_version_33 rfl ?_
        refine j_iload_n X (q := 35) d_M_version_34 rfl rfl ?_
        refine j_iadd X (q := 36) d_M_version_35 rfl ?_
        refine j_iald X (j := 8 * k + j) (q := 37) d_M_version_36 rfl (by decide) (j_ix 8 _ _) (by omega) (hC _ _ (by decide)) rfl (jMs_od (jMs_code hm) hk hj) ?_
        refine j_goto X (tgt := 41) d_M_version_37 (by decide) ?_
        refine j_iret X d_M_version_41 ?_
        exact ⟨by rw [if_pos ⟨h9, by rw [ck]; exact hin⟩, ck, nI_clamp (show j < 2 ^ 31 by omega)], jfm_c⟩
set_option maxRecDepth 100000 in
set_option maxHeartbeats 4000000 in
theorem c_M_exchange {l : Launch} {Θ : jxT} (hI : jxI Θ) (hC : ∀ g r, r < jrwM g → Θ.2.2.2 g r) {h : jH} {v : jV} {σ : jxM} (hw : jHw h) (hv : jVc h v) (hm : jMs h v σ) (x i : Int32) : jxMet l y_M_exchange b_M_exchange 4 (some FieldType.boolean) (jrm 2) Θ [.inr (40, 0), .inl x, .inl i] σ (fun r' σ' => (∃ b : Bool, r' = some (.inl (jB b)) ∧ (b = true ↔ jin x 6 = true ∧ jin i (hyon h x.toNatClampNeg - 1) = true) ∧ (b = false → jMs h v σ') ∧ (b = true → jMs (jexc h x.toNatClampNeg i.toNatClampNeg) v σ')) ∧ ∀ g, g < 40 → σ' g = σ g) := by
  refine jxMet.of (own := "HistoryJudgeModel") hI (by decide) rfl (Nat.le_of_ble_eq_true rfl) (fun Γ X => ?_)
  show jxW Γ Θ (fun r' σ' => (∃ b : Bool, r' = some (.inl (jB b)) ∧ (b = true ↔ jin x 6 = true ∧ jin i (hyon h x.toNatClampNeg - 1) = true) ∧ (b = false → jMs h v σ') ∧ (b = true → jMs (jexc h x.toNatClampNeg i.toNatClampNeg) v σ')) ∧ ∀ g, g < 40 → σ' g = σ g) 0 [some (.inr (40, 0)), some (.inl x), some (.inl i), none] [] σ
  refine j_aload_n X (q := 1) d_M_exchange_0 rfl rfl ?_
  refine j_iconst X (v := (nI 0)) (q := 2) d_M_exchange_1 (by decide +kernel) rfl ?_
  refine j_putI X (C := jR5) (T := jT5) (N := 18) (ci := 5) (j := 0) (q := 5) d_M_exchange_2 ju5 rfl rfl jt5 jt5_ok jn5 rfl (by decide) wl483 rfl (hC _ _ (by decide)) rfl rfl (ty := .int) rfl rfl rfl ?_
  refine j_iload_n X (q := 6) d_M_exchange_5 rfl rfl ?_
  refine j_callS X (n := 1) d_M_exchange_6 (c_M_isItem hI x _) wl531 wl532 wl42 wl533 (by decide +kernel) ⟨rfl, rfl⟩ (by decide) rfl rfl (Nat.le_of_ble_eq_true rfl) rfl (q := 9) rfl (fun r6 τ6 e6 => ?_)
  obtain ⟨rfl, rfl⟩ := e6
  refine j_bif_eq X (tgt := 28) (q := 12) d_M_exchange_9 (by decide) rfl (fun h9 => ?_) (fun h9 => ?_)
  · have _b9 := True.intro
    have hb : ¬ (jin x 6 = true ∧ jin i (hyon h x.toNatClampNeg - 1) = true) := fun q => by rw [h9] at q; cases q.1
    refine j_iconst X (v := (nI 0)) (q := 29) d_M_exchange_28 (by decide +kernel) rfl ?_
    refine j_zret X d_M_exchange_29 (by decide +kernel) ?_
    exact ⟨⟨false, rfl, ⟨fun q => (by cases q), fun q => absurd q hb⟩, fun _ => jMs_code hm, fun q => (by cases q)⟩, fun g hg => jxs_g _ _ _ _ _ (by omega)⟩
  · have _b9 := True.intro
    obtain ⟨k, hk, rfl⟩ := jin_of h9 (by decide)
    have ck : (nI k).toNatClampNeg = k := nI_clamp (by omega)
    have bO := jHw_on hw hk
    refine j_iload_n X (q := 13) d_M_exchange_12 rfl rfl ?_
    refine j_if_lt X (tgt := 28) (q := 16) d_M_exchange_13 (by decide) rfl (fun h13 => ?_) (fun h13 => ?_)
    · have _b13 := True.intro
      have hb : ¬ (jin (nI k) 6 = true ∧ jin i (hyon h (nI k).toNatClampNeg - 1) = true) := fun q => by rw [jin_neg h13] at q; cases q.2
      refine j_iconst X (v := (nI 0)) (q := 29) d_M_exchange_28 (by decide +kernel) rfl ?_
      refine j_zret X d_M_exchange_29 (by decide +kernel) ?_
      exact ⟨⟨false, rfl, ⟨fun q => (by cases q), fun q => absurd q hb⟩, fun _ => jMs_code hm, fun q => (by cases q)⟩, fun g hg => jxs_g _ _ _ _ _ (by omega)⟩
    · have _b13 := True.intro
      refine j_iload_n X (q := 17) d_M_exchange_16 rfl rfl ?_
      refine j_aload_n X (q := 18) d_M_exchange_17 rfl rfl ?_
      refine j_getR X (C := jR5) (T := jT5) (N := 18) (ci := 5) (j := 11) (q := 21) d_M_exchange_18 ju5 rfl rfl rfl (by decide) wl494 rfl (hC _ _ (by decide)) rfl ?_
      refine j_iload_n X (q := 22) d_M_exchange_21 rfl rfl ?_
      refine j_iald X (q := 23) d_M_exchange_22 rfl (by decide) rfl hk (hC _ _ (by decide)) rfl (jMs_on (jMs_code hm) hk) ?_
      refine j_iconst X (v := (nI 1)) (q := 24) d_M_exchange_23 (by decide +kernel) rfl ?_
      refine j_isub X (q := 25) d_M_exchange_24 rfl ?_
      refine j_icmp_lt X (tgt := 30) (q := 28) d_M_exchange_25 (by decide) rfl (fun h25 => ?_) (fun h25 => ?_)
      · have _b25 := True.intro
        have hin : jin i (hyon h k - 1) = true ∧ 1 ≤ hyon h k := by
          have h1 := Int32.lt_iff_toInt_lt.mp h25
          rw [pk_sub_toInt (by omega) (by omega)] at h1
          have h0 : ¬ i.toInt < (0 : Int32).toInt := fun q => h13 (Int32.lt_iff_toInt_lt.mpr q)
          have e0 : (0 : Int32).toInt = 0 := by decide +kernel
          rw [e0] at h0
          unfold jin
          rw [decide_eq_true_eq]
          omega
        obtain ⟨j, hj, rfl⟩ := jin_of hin.1 (by omega)
        have cj : (nI j).toNatClampNeg = j := nI_clamp (by omega)
        refine j_aload_n X (q := 31) d_M_exchange_30 rfl rfl ?_
        refine j_getR X (C := jR5) (T := jT5) (N := 18) (ci := 5) (j := 12) (q := 34) d_M_exchange_31 ju5 rfl rfl rfl (by decide) wl495 rfl (hC _ _ (by decide)) rfl ?_
        refine j_bipush X (v := (nI 8)) (q := 36) d_M_exchange_34 (by decide +kernel) rfl ?_
        refine j_iload_n X (q := 37) d_M_exchange_36 rfl rfl ?_
        refine j_imul X (q := 38) d_M_exchange_37 rfl ?_
        refine j_iload_n X (q := 39) d_M_exchange_38 rfl rfl ?_
        refine j_iadd X (q := 40) d_M_exchange_39 rfl ?_
        refine j_iald X (j := 8 * k + j) (q := 41) d_M_exchange_40 rfl (by decide) (j_ix 8 _ _) (by omega) (hC _ _ (by decide)) rfl (jMs_od (jMs_code hm) hk (show j < hyon h k by omega)) ?_
        refine j_istore_n X (j := 3) (q := 42) d_M_exchange_41 rfl (Nat.le_of_ble_eq_true rfl) rfl ?_
        refine j_aload_n X (q := 43) d_M_exchange_42 rfl rfl ?_
        refine j_getR X (C := jR5) (T := jT5) (N := 18) (ci := 5) (j := 12) (q := 46) d_M_exchange_43 ju5 rfl rfl rfl (by decide) wl495 rfl (hC _ _ (by decide)) rfl ?_
        refine j_bipush X (v := (nI 8)) (q := 48) d_M_exchange_46 (by decide +kernel) rfl ?_
        refine j_iload_n X (q := 49) d_M_exchange_48 rfl rfl ?_
        refine j_imul X (q := 50) d_M_exchange_49 rfl ?_
        refine j_iload_n X (q := 51) d_M_exchange_50 rfl rfl ?_
        refine j_iadd X (q := 52) d_M_exchange_51 rfl ?_
        refine j_aload_n X (q := 53) d_M_exchange_52 rfl rfl ?_
        refine j_getR X (C := jR5) (T := jT5) (N := 18) (ci := 5) (j := 12) (q := 56) d_M_exchange_53 ju5 rfl rfl rfl (by decide) wl495 rfl (hC _ _ (by decide)) rfl ?_
        refine j_bipush X (v := (nI 8)) (q := 58) d_M_exchange_56 (by decide +kernel) rfl ?_
        refine j_iload_n X (q := 59) d_M_exchange_58 rfl rfl ?_
        refine j_imul X (q := 60) d_M_exchange_59 rfl ?_
        refine j_iload_n X (q := 61) d_M_exchange_60 rfl rfl ?_
        refine j_iadd X (q := 62) d_M_exchange_61 rfl ?_
        refine j_iconst X (v := (nI 1)) (q := 63) d_M_exchange_62 (by decide +kernel) rfl ?_
        refine j_iadd X (q := 64) d_M_exchange_63 rfl ?_
        refine j_iald X (j := 8 * k + j + 1) (q := 65) d_M_exchange_64 rfl (by decide) (show nI 8 * nI k + nI j + nI 1 = nI (8 * k + j + 1) by rw [j_ix, nI_add]) (by omega) (hC _ _ (by decide)) rfl (show _ = nI (hyod h k (j + 1)) from jMs_od (jMs_code hm) hk (show j + 1 < hyon h k by omega)) ?_
        refine j_iast X (j := 8 * k + j) (q := 66) d_M_exchange_65 rfl (by decide) (j_ix 8 _ _) (by omega) (hC _ _ (by decide)) rfl ?_
        refine j_aload_n X (q := 67) d_M_exchange_66 rfl rfl ?_
        refine j_getR X (C := jR5) (T := jT5) (N := 18) (ci := 5) (j := 12) (q := 70) d_M_exchange_67 ju5 rfl rfl rfl (by decide) wl495 rfl (hC _ _ (by decide)) rfl ?_
        refine j_bipush X (v := (nI 8)) (q := 72) d_M_exchange_70 (by decide +kernel) rfl ?_
        refine j_iload_n X (q := 73) d_M_exchange_72 rfl rfl ?_
        refine j_imul X (q := 74) d_M_exchange_73 rfl ?_
        refine j_iload_n X (q := 75) d_M_exchange_74 rfl rfl ?_
        refine j_iadd X (q := 76) d_M_exchange_75 rfl ?_
        refine j_iconst X (v := (nI 1)) (q := 77) d_M_exchange_76 (by decide +kernel) rfl ?_
        refine j_iadd X (q := 78) d_M_exchange_77 rfl ?_
        refine j_iload_n X (q := 79) d_M_exchange_78 rfl rfl ?_
        refine j_iast X (j := 8 * k + j + 1) (q := 80) d_M_exchange_79 rfl (by decide) (show nI 8 * nI k + nI j + nI 1 = nI (8 * k + j + 1) by rw [j_ix, nI_add]) (by omega) (hC _ _ (by decide)) rfl ?_
        refine j_iconst X (v := (nI 1)) (q := 81) d_M_exchange_80 (by decide +kernel) rfl ?_
        refine j_zret X d_M_exchange_81 (by decide +kernel) ?_
        refine ⟨⟨true, rfl, ⟨fun _ => ⟨h9, by rw [ck]; exact hin.1⟩, fun _ => rfl⟩, fun q => (by cases q), fun _ => ?_⟩, fun g hg => by rw [jxs_g _ _ _ _ _ (by omega), jxs_g _ _ _ _ _ (by omega), jxs_g _ _ _ _ _ (by omega)]⟩
        rw [ck, cj]
        exact jMs_exc hw (jMs_code hm) hk (by omega)
      · have _b25 := True.intro
        have hb : ¬ (jin (nI k) 6 = true ∧ jin i (hyon h (nI k).toNatClampNeg - 1) = true) := fun q => by
          have q2 := q.2
          rw [ck] at q2
          obtain ⟨j, hj, rfl⟩ := jin_of q2 (by omega)
          refine h25 (Int32.lt_iff_toInt_lt.mpr ?_)
          rw [pk_sub_toInt (by omega) (by omega), nI_toInt (by omega)]
          omega
        refine j_iconst X (v := (nI 0)) (q := 29) d_M_exchange_28 (by decide +kernel) rfl ?_
        refine j_zret X d_M_exchange_29 (by decide +kernel) ?_
        exact ⟨⟨false, rfl, ⟨fun q => (by cases q), fun q => absurd q hb⟩, fun _ => jMs_code hm, fun q => (by cases q)⟩, fun g hg => jxs_g _ _ _ _ _ (by omega)⟩
set_option maxRecDepth 100000 in
set_option maxHeartbeats 4000000 in
theorem c_M_clear {l : Launch} {Θ : jxT} (hI : jxI Θ) (hC : ∀ g r, r < jrwM g → Θ.2.2.2 g r) {h : jH} {v : jV} {σ : jxM} (hw : jHw h) (hv : jVc h v) (hm : jMs h v σ)  : jxMet l y_M_clear b_M_clear 3 (some FieldType.int) (jrm 1) Θ [.inr (40, 0)] σ (fun r' σ' => r' = some (.inl (nI (hyV h))) ∧ jMs jh0 jv0 σ' ∧ ∀ g, g < 40 → σ' g = σ g) := by
  refine jxMet.of (own := "HistoryJudgeModel") hI (by decide) rfl (Nat.le_of_ble_eq_true rfl) (fun Γ X => ?_)
  show jxW Γ Θ (fun r' σ' => r' = some (.inl (nI (hyV h))) ∧ jMs jh0 jv0 σ' ∧ ∀ g, g < 40 → σ' g = σ g) 0 [some (.inr (40, 0)), none, none] [] σ
  have Q : ∀ (N : Nat) (x : Nat) (σ1 : jxM), 6 - x < N → x ≤ 6 → (σ1 40 0 2 = nI 0 ∧ σ1 40 0 5 = nI 0 ∧ σ1 40 0 6 = nI 0) → (∀ j, j < 8 → σ1 41 0 j = nI 0) → (∀ j, j < x → σ1 48 0 j = nI 0) → (∀ g, g < 40 → σ1 g = σ g) → jxW Γ Θ (fun r' σ' => r' = some (.inl (nI (hyV h))) ∧ jMs jh0 jv0 σ' ∧ ∀ g, g < 40 → σ' g = σ g) 48 [some (.inr (40, 0)), some (.inl (nI (hyV h))), some (.inl (nI x))] [] σ1 := by
    intro N
    induction N with
    | zero => intro x σ1 hn; exact absurd hn (Nat.not_lt_zero _)
    | succ N ih =>
      intro x σ1 hn hx hz hs hl hf
      refine j_iload_n X (q := 49) d_M_clear_48 rfl rfl ?_
      refine j_bipush X (v := (nI 6)) (q := 51) d_M_clear_49 (by decide +kernel) rfl ?_
      refine j_ncmp_ge X (tgt := 67) (q := 54) d_M_clear_51 (by decide) rfl (by omega) (by omega) (fun h51 => ?_) (fun h51 => ?_)
      · have _b51 := True.intro
        refine j_iload_n X (q := 68) d_M_clear_67 rfl rfl ?_
        refine j_iret X d_M_clear_68 ?_
        exact ⟨rfl, jMs_0 hz.1 hz.2.1 hz.2.2 hs (fun x hx => hl x (by omega)), hf⟩
      · have _b51 := True.intro
        refine j_aload_n X (q := 55) d_M_clear_54 rfl rfl ?_
        refine j_getR X (C := jR5) (T := jT5) (N := 18) (ci := 5) (j := 11) (q := 58) d_M_clear_55 ju5 rfl rfl rfl (by decide) wl494 rfl (hC _ _ (by decide)) rfl ?_
        refine j_iload_n X (q := 59) d_M_clear_58 rfl rfl ?_
        refine j_iconst X (v := (nI 0)) (q := 60) d_M_clear_59 (by decide +kernel) rfl ?_
        refine j_iast X (q := 61) d_M_clear_60 rfl (by decide) rfl (by omega) (hC _ _ (by decide)) rfl ?_
        refine j_iinc X (q := 64) d_M_clear_61 rfl (j_inc1 _) rfl ?_
        refine j_goto X (tgt := 48) d_M_clear_64 (by decide) ?_
        exact ih (x + 1) _ (by omega) (by omega) (by rw [jxs_g _ _ _ _ _ (by decide)]; exact hz) (fun j hj => by rw [jxs_g _ _ _ _ _ (by decide)]; exact hs j hj) (fun j hj => by
          rw [jxs_at]
          by_cases z : j = x
          · subst z; rw [if_pos ⟨rfl, rfl, rfl⟩]
          · rw [if_neg (by omega)]; exact hl j (by omega)) (fun g hg => by rw [jxs_g _ _ _ _ _ (by omega)]; exact hf g hg)
  have K : ∀ (N : Nat) (t : Nat) (σ1 : jxM), 8 - t < N → t ≤ 8 → (σ1 40 0 2 = nI 0 ∧ σ1 40 0 5 = nI 0 ∧ σ1 40 0 6 = nI 0) → (∀ j, j < t → σ1 41 0 j = nI 0) → (∀ g, g < 40 → σ1 g = σ g) → jxW Γ Θ (fun r' σ' => r' = some (.inl (nI (hyV h))) ∧ jMs jh0 jv0 σ' ∧ ∀ g, g < 40 → σ' g = σ g) 27 [some (.inr (40, 0)), some (.inl (nI (hyV h))), some (.inl (nI t))] [] σ1 := by
    intro N
    induction N with
    | zero => intro t σ1 hn; exact absurd hn (Nat.not_lt_zero _)
    | succ N ih =>
      intro t σ1 hn ht hz hs hf
      refine j_iload_n X (q := 28) d_M_clear_27 rfl rfl ?_
      refine j_bipush X (v := (nI 8)) (q := 30) d_M_clear_28 (by decide +kernel) rfl ?_
      refine j_ncmp_ge X (tgt := 46) (q := 33) d_M_clear_30 (by decide) rfl (by omega) (by omega) (fun h30 => ?_) (fun h30 => ?_)
      · have _b30 := True.intro
        refine j_iconst X (v := (nI 0)) (q := 47) d_M_clear_46 (by decide +kernel) rfl ?_
        refine j_istore_n X (j := 2) (q := 48) d_M_clear_47 rfl (Nat.le_of_ble_eq_true rfl) rfl ?_
        refine jxW.to (L' := [some (.inr (40, 0)), some (.inl (nI (hyV h))), some (.inl (nI 0))]) (by simp [jfg]) ?_
        exact Q 7 0 _ (by omega) (by omega) hz (fun j hj => hs j (by omega)) (fun j hj => by omega) hf
      · have _b30 := True.intro
        refine j_aload_n X (q := 34) d_M_clear_33 rfl rfl ?_
        refine j_getR X (C := jR5) (T := jT5) (N := 18) (ci := 5) (j := 1) (q := 37) d_M_clear_34 ju5 rfl rfl rfl (by decide) wl484 rfl (hC _ _ (by decide)) rfl ?_
        refine j_iload_n X (q := 38) d_M_clear_37 rfl rfl ?_
        refine j_iconst X (v := (nI 0)) (q := 39) d_M_clear_38 (by decide +kernel) rfl ?_
        refine j_iast X (q := 40) d_M_clear_39 rfl (by decide) rfl (by omega) (hC _ _ (by decide)) rfl ?_
        refine j_iinc X (q := 43) d_M_clear_40 rfl (j_inc1 _) rfl ?_
        refine j_goto X (tgt := 27) d_M_clear_43 (by decide) ?_
        exact ih (t + 1) _ (by omega) (by omega) (by rw [jxs_g _ _ _ _ _ (by decide)]; exact hz) (fun j hj => by
          rw [jxs_at]
          by_cases z : j = t
          · subst z; rw [if_pos ⟨rfl, rfl, rfl⟩]
          · rw [if_neg (by omega)]; exact hs j (by omega)) (fun g hg => by rw [jxs_g _ _ _ _ _ (by omega)]; exact hf g hg)
  refine j_aload_n X (q := 1) d_M_clear_0 rfl rfl ?_
  refine j_iconst X (v := (nI 0)) (q := 2) d_M_clear_1 (by decide +kernel) rfl ?_
  refine j_putI X (C := jR5) (T := jT5) (N := 18) (ci := 5) (j := 0) (q := 5) d_M_clear_2 ju5 rfl rfl jt5 jt5_ok jn5 rfl (by decide) wl483 rfl (hC _ _ (by decide)) rfl rfl (ty := .int) rfl rfl rfl ?_
  refine j_aload_n X (q := 6) d_M_clear_5 rfl rfl ?_
  refine j_getI X (C := jR5) (T := jT5) (N := 18) (ci := 5) (j := 2) (q := 9) d_M_clear_6 ju5 rfl rfl rfl (by decide) wl485 rfl (hC _ _ (by decide)) rfl (jMs_V (jMs_code hm)) ?_
  refine j_istore_n X (j := 1) (q := 10) d_M_clear_9 rfl (Nat.le_of_ble_eq_true rfl) rfl ?_
  refine j_aload_n X (q := 11) d_M_clear_10 rfl rfl ?_
  refine j_iconst X (v := (nI 0)) (q := 12) d_M_clear_11 (by decide +kernel) rfl ?_
  refine j_putI X (C := jR5) (T := jT5) (N := 18) (ci := 5) (j := 2) (q := 15) d_M_clear_12 ju5 rfl rfl jt5 jt5_ok jn5 rfl (by decide) wl485 rfl (hC _ _ (by decide)) rfl rfl (ty := .int) rfl rfl rfl ?_
  refine j_aload_n X (q := 16) d_M_clear_15 rfl rfl ?_
  refine j_iconst X (v := (nI 0)) (q := 17) d_M_clear_16 (by decide +kernel) rfl ?_
  refine j_putI X (C := jR5) (T := jT5) (N := 18) (ci := 5) (j := 5) (q := 20) d_M_clear_17 ju5 rfl rfl jt5 jt5_ok jn5 rfl (by decide) wl488 rfl (hC _ _ (by decide)) rfl rfl (ty := .int) rfl rfl rfl ?_
  refine j_aload_n X (q := 21) d_M_clear_20 rfl rfl ?_
  refine j_iconst X (v := (nI 0)) (q := 22) d_M_clear_21 (by decide +kernel) rfl ?_
  refine j_putI X (C := jR5) (T := jT5) (N := 18) (ci := 5) (j := 6) (q := 25) d_M_clear_22 ju5 rfl rfl jt5 jt5_ok jn5 rfl (by decide) wl489 rfl (hC _ _ (by decide)) rfl rfl (ty := .int) rfl rfl rfl ?_
  refine j_iconst X (v := (nI 0)) (q := 26) d_M_clear_25 (by decide +kernel) rfl ?_
  refine j_istore_n X (j := 2) (q := 27) d_M_clear_26 rfl (Nat.le_of_ble_eq_true rfl) rfl ?_
  exact K 9 0 _ (by omega) (by omega) ⟨by simp [jxs_at], by simp [jxs_at], by simp [jxs_at]⟩ (fun j hj => by omega) (fun g hg => by rw [jxs_g _ _ _ _ _ (by omega), jxs_g _ _ _ _ _ (by omega), jxs_g _ _ _ _ _ (by omega), jxs_g _ _ _ _ _ (by omega)])
set_option maxRecDepth 100000 in
set_option maxHeartbeats 4000000 in
theorem c_M_note {l : Launch} {Θ : jxT} (hI : jxI Θ) (hC : ∀ g r, r < jrwM g → Θ.2.2.2 g r) {σ : jxM} {E t : Nat} (hE : σ 40 0 6 = nI E) (hE1 : E < 100) (ht : t < 8) (x : Nat) (o : Int32) (b : Bool) : jxMet l y_M_note b_M_note 5 none (jrm 1) Θ [.inr (40, 0), .inl (nI t), .inl (nI x), .inl o, .inl (jB b)] σ (fun r' σ' => r' = none ∧ jnt σ E t x o b = σ') := by
  refine jxMet.of (own := "HistoryJudgeModel") hI (by decide) rfl (Nat.le_of_ble_eq_true rfl) (fun Γ X => ?_)
  show jxW Γ Θ (fun r' σ' => r' = none ∧ jnt σ E t x o b = σ') 0 [some (.inr (40, 0)), some (.inl (nI t)), some (.inl (nI x)), some (.inl o), some (.inl (jB b))] [] σ
  refine j_aload_n X (q := 1) d_M_note_0 rfl rfl ?_
  refine j_getR X (C := jR5) (T := jT5) (N := 18) (ci := 5) (j := 7) (q := 4) d_M_note_1 ju5 rfl rfl rfl (by decide) wl490 rfl (hC _ _ (by decide)) rfl ?_
  refine j_aload_n X (q := 5) d_M_note_4 rfl rfl ?_
  refine j_getI X (C := jR5) (T := jT5) (N := 18) (ci := 5) (j := 6) (q := 8) d_M_note_5 ju5 rfl rfl rfl (by decide) wl489 rfl (hC _ _ (by decide)) rfl hE ?_
  refine j_iload_n X (q := 9) d_M_note_8 rfl rfl ?_
  refine j_iast X (j := E) (q := 10) d_M_note_9 rfl (by decide) rfl (by omega) (hC _ _ (by decide)) rfl ?_
  refine j_aload_n X (q := 11) d_M_note_10 rfl rfl ?_
  refine j_getR X (C := jR5) (T := jT5) (N := 18) (ci := 5) (j := 8) (q := 14) d_M_note_11 ju5 rfl rfl rfl (by decide) wl491 rfl (hC _ _ (by decide)) rfl ?_
  refine j_aload_n X (q := 15) d_M_note_14 rfl rfl ?_
  refine j_getI X (C := jR5) (T := jT5) (N := 18) (ci := 5) (j := 6) (q := 18) d_M_note_15 ju5 rfl rfl rfl (by decide) wl489 rfl (hC _ _ (by decide)) rfl (show _ = nI E by simp [jxs_at]; exact hE) ?_
  refine j_iload_n X (q := 19) d_M_note_18 rfl rfl ?_
  refine j_iast X (j := E) (q := 20) d_M_note_19 rfl (by decide) rfl (by omega) (hC _ _ (by decide)) rfl ?_
  refine j_aload_n X (q := 21) d_M_note_20 rfl rfl ?_
  refine j_getR X (C := jR5) (T := jT5) (N := 18) (ci := 5) (j := 9) (q := 24) d_M_note_21 ju5 rfl rfl rfl (by decide) wl492 rfl (hC _ _ (by decide)) rfl ?_
  refine j_aload_n X (q := 25) d_M_note_24 rfl rfl ?_
  refine j_getI X (C := jR5) (T := jT5) (N := 18) (ci := 5) (j := 6) (q := 28) d_M_note_25 ju5 rfl rfl rfl (by decide) wl489 rfl (hC _ _ (by decide)) rfl (show _ = nI E by simp [jxs_at]; exact hE) ?_
  refine j_iload_n X (q := 29) d_M_note_28 rfl rfl ?_
  refine j_iast X (j := E) (q := 30) d_M_note_29 rfl (by decide) rfl (by omega) (hC _ _ (by decide)) rfl ?_
  refine j_aload_n X (q := 31) d_M_note_30 rfl rfl ?_
  refine j_getR X (C := jR5) (T := jT5) (N := 18) (ci := 5) (j := 10) (q := 34) d_M_note_31 ju5 rfl rfl rfl (by decide) wl493 rfl (hC _ _ (by decide)) rfl ?_
  refine j_aload_n X (q := 35) d_M_note_34 rfl rfl ?_
  refine j_getI X (C := jR5) (T := jT5) (N := 18) (ci := 5) (j := 6) (q := 38) d_M_note_35 ju5 rfl rfl rfl (by decide) wl489 rfl (hC _ _ (by decide)) rfl (show _ = nI E by simp [jxs_at]; exact hE) ?_
  refine j_iload X (q := 40) d_M_note_38 rfl rfl ?_
  refine j_zast X (j := E) (q := 41) d_M_note_40 rfl (by decide) rfl (by omega) (hC _ _ (by decide)) rfl (jB_narrow b) ?_
  refine j_aload_n X (q := 42) d_M_note_41 rfl rfl ?_
  refine j_aload_n X (q := 43) d_M_note_42 rfl rfl ?_
  refine j_getI X (C := jR5) (T := jT5) (N := 18) (ci := 5) (j := 6) (q := 46) d_M_note_43 ju5 rfl rfl rfl (by decide) wl489 rfl (hC _ _ (by decide)) rfl (show _ = nI E by simp [jxs_at]; exact hE) ?_
  refine j_iconst X (v := (nI 1)) (q := 47) d_M_note_46 (by decide +kernel) rfl ?_
  refine j_iadd X (q := 48) d_M_note_47 rfl ?_
  refine j_putI X (C := jR5) (T := jT5) (N := 18) (ci := 5) (j := 6) (q := 51) d_M_note_48 ju5 rfl rfl jt5 jt5_ok jn5 rfl (by decide) wl489 rfl (hC _ _ (by decide)) rfl rfl (ty := .int) rfl rfl rfl ?_
  refine j_aload_n X (q := 52) d_M_note_51 rfl rfl ?_
  refine j_getR X (C := jR5) (T := jT5) (N := 18) (ci := 5) (j := 1) (q := 55) d_M_note_52 ju5 rfl rfl rfl (by decide) wl484 rfl (hC _ _ (by decide)) rfl ?_
  refine j_iload_n X (q := 56) d_M_note_55 rfl rfl ?_
  refine j_iconst X (v := (nI 1)) (q := 57) d_M_note_56 (by decide +kernel) rfl ?_
  refine j_iast X (j := t) (q := 58) d_M_note_57 rfl (by decide) rfl ht (hC _ _ (by decide)) rfl ?_
  refine j_vret X d_M_note_58 ?_
  exact ⟨rfl, by rw [nI_add]; rfl⟩
set_option maxRecDepth 100000 in
set_option maxHeartbeats 4000000 in
theorem c_M_write {l : Launch} {Θ : jxT} (hI : jxI Θ) (hC : ∀ g r, r < jrwM g → Θ.2.2.2 g r) {h : jH} {v : jV} {σ : jxM} (hw : jHw h) (hv : jVc h v) (hm : jMs h v σ) (a b : Int32) : jxMet l y_M_write b_M_write 3 (some FieldType.int) (jrm 2) Θ [.inr (40, 0), .inl a, .inl b] σ (fun r' σ' => σ' 40 0 0 = nI (jwc h a b) ∧ (jwc h a b ≠ 0 → r' = some (.inl (nI 0)) ∧ jMs h v σ') ∧ (jwc h a b = 0 → r' = some (.inl (nI (hyV h))) ∧ jMs (jaddV h a.toNatClampNeg b.toNatClampNeg) (jev v a.toNatClampNeg b.toNatClampNeg (some (hyV h)) true) σ') ∧ ∀ g, g < 40 ∨ g = 60 → σ' g = σ g) := by
  refine jxMet.of (own := "HistoryJudgeModel") hI (by decide) rfl (Nat.le_of_ble_eq_true rfl) (fun Γ X => ?_)
  show jxW Γ Θ (fun r' σ' => σ' 40 0 0 = nI (jwc h a b) ∧ (jwc h a b ≠ 0 → r' = some (.inl (nI 0)) ∧ jMs h v σ') ∧ (jwc h a b = 0 → r' = some (.inl (nI (hyV h))) ∧ jMs (jaddV h a.toNatClampNeg b.toNatClampNeg) (jev v a.toNatClampNeg b.toNatClampNeg (some (hyV h)) true) σ') ∧ ∀ g, g < 40 ∨ g = 60 → σ' g = σ g) 0 [some (.inr (40, 0)), some (.inl a), some (.inl b)] [] σ
  have bV := jHw_V hw
  have bR := jHw_R hw
  have bE := hv.1
  have J47 : ∀ c : Nat, jwc h a b = c → jxW Γ Θ (fun r' σ' => σ' 40 0 0 = nI (jwc h a b) ∧ (jwc h a b ≠ 0 → r' = some (.inl (nI 0)) ∧ jMs h v σ') ∧ (jwc h a b = 0 → r' = some (.inl (nI (hyV h))) ∧ jMs (jaddV h a.toNatClampNeg b.toNatClampNeg) (jev v a.toNatClampNeg b.toNatClampNeg (some (hyV h)) true) σ') ∧ ∀ g, g < 40 ∨ g = 60 → σ' g = σ g) 47 [some (.inr (40, 0)), some (.inl a), some (.inl b)] [.inl (nI c), .inr (40, 0)] σ := by
    intro c ec
    have c4 := jwc_4 h a b
    refine j_putI X (C := jR5) (T := jT5) (N := 18) (ci := 5) (j := 0) (q := 50) d_M_write_47 ju5 rfl rfl jt5 jt5_ok jn5 rfl (by decide) wl483 rfl (hC _ _ (by decide)) rfl rfl (ty := .int) rfl rfl rfl ?_
    refine j_aload_n X (q := 51) d_M_write_50 rfl rfl ?_
    refine j_getI X (C := jR5) (T := jT5) (N := 18) (ci := 5) (j := 0) (q := 54) d_M_write_51 ju5 rfl rfl rfl (by decide) wl483 rfl (hC _ _ (by decide)) rfl (show _ = nI c by rw [jxs_at, if_pos ⟨rfl, rfl, rfl⟩]) ?_
    refine j_nif_le X (tgt := 59) (q := 57) d_M_write_54 (by decide) rfl (by omega) (fun h54 => ?_) (fun h54 => ?_)
    · have _b54 := True.intro
      obtain ⟨t, x, ht, hx, ea, eb, ca, cb, hs1, hs2⟩ := jwc_0 (h := h) (a := a) (b := b) (by omega)
      refine jxW.to (L' := [some (.inr (40, 0)), some (.inl (nI t)), some (.inl (nI x))]) (by simp [jfg]; exact ⟨ea, eb⟩) ?_
      refine j_aload_n X (q := 60) d_M_write_59 rfl rfl ?_
      refine j_getR X (C := jR5) (T := jT5) (N := 18) (ci := 5) (j := 3) (q := 63) d_M_write_60 ju5 rfl rfl rfl (by decide) wl486 rfl (hC _ _ (by decide)) rfl ?_
      refine j_aload_n X (q := 64) d_M_write_63 rfl rfl ?_
      refine j_getI X (C := jR5) (T := jT5) (N := 18) (ci := 5) (j := 2) (q := 67) d_M_write_64 ju5 rfl rfl rfl (by decide) wl485 rfl (hC _ _ (by decide)) rfl (show _ = nI (hyV h) by simp [jxs_at]; exact jMs_V hm) ?_
      refine j_iload_n X (q := 68) d_M_write_67 rfl rfl ?_
      refine j_iast X (j := hyV h) (q := 69) d_M_write_68 rfl (by decide) rfl (by omega) (hC _ _ (by decide)) rfl ?_
      refine j_aload_n X (q := 70) d_M_write_69 rfl rfl ?_
      refine j_getR X (C := jR5) (T := jT5) (N := 18) (ci := 5) (j := 4) (q := 73) d_M_write_70 ju5 rfl rfl rfl (by decide) wl487 rfl (hC _ _ (by decide)) rfl ?_
      refine j_aload_n X (q := 74) d_M_write_73 rfl rfl ?_
      refine j_getI X (C := jR5) (T := jT5) (N := 18) (ci := 5) (j := 2) (q := 77) d_M_write_74 ju5 rfl rfl rfl (by decide) wl485 rfl (hC _ _ (by decide)) rfl (show _ = nI (hyV h) by simp [jxs_at]; exact jMs_V hm) ?_
      refine j_iload_n X (q := 78) d_M_write_77 rfl rfl ?_
      refine j_iast X (j := hyV h) (q := 79) d_M_write_78 rfl (by decide) rfl (by omega) (hC _ _ (by decide)) rfl ?_
      refine j_aload_n X (q := 80) d_M_write_79 rfl rfl ?_
      refine j_iload_n X (q := 81) d_M_write_80 rfl rfl ?_
      refine j_iload_n X (q := 82) d_M_write_81 rfl rfl ?_
      refine j_aload_n X (q := 83) d_M_write_82 rfl rfl ?_
      refine j_getI X (C := jR5) (T := jT5) (N := 18) (ci := 5) (j := 2) (q := 86) d_M_write_83 ju5 rfl rfl rfl (by decide) wl485 rfl (hC _ _ (by decide)) rfl (show _ = nI (hyV h) by simp [jxs_at]; exact jMs_V hm) ?_
      refine j_iconst X (v := (nI 1)) (q := 87) d_M_write_86 (by decide +kernel) rfl ?_
      refine j_callV X (n := 4) (C := jR5) (T := jT5) (N := 18) d_M_write_87 (c_M_note hI hC (E := evE v) (t := t) (show _ = nI (evE v) by simp [jxs_at]; exact jMs_E hm) (by omega) ht x (nI (hyV h)) true) rfl rfl (hC _ _ (by decide)) wl534 wl535 wl15 wl42 wl536 (by decide +kernel) ⟨rfl, rfl⟩ (by decide) rfl rfl (Nat.le_of_ble_eq_true rfl) rfl (q := 90) rfl (fun r87 τ87 e87 => ?_)
      obtain ⟨rfl, rfl⟩ := e87
      refine j_aload_n X (q := 91) d_M_write_90 rfl rfl ?_
      refine j_aload_n X (q := 92) d_M_write_91 rfl rfl ?_
      refine j_getI X (C := jR5) (T := jT5) (N := 18) (ci := 5) (j := 2) (q := 95) d_M_write_92 ju5 rfl rfl rfl (by decide) wl485 rfl (hC _ _ (by decide)) rfl (show _ = nI (hyV h) by unfold jnt; simp [jxs_at]; exact jMs_V hm) ?_
      refine j_iconst X (v := (nI 1)) (q := 96) d_M_write_95 (by decide +kernel) rfl ?_
      refine j_iadd X (q := 97) d_M_write_96 rfl ?_
      refine j_putI X (C := jR5) (T := jT5) (N := 18) (ci := 5) (j := 2) (q := 100) d_M_write_97 ju5 rfl rfl jt5 jt5_ok jn5 rfl (by decide) wl485 rfl (hC _ _ (by decide)) rfl rfl (ty := .int) rfl rfl rfl ?_
      refine j_aload_n X (q := 101) d_M_write_100 rfl rfl ?_
      refine j_getI X (C := jR5) (T := jT5) (N := 18) (ci := 5) (j := 2) (q := 104) d_M_write_101 ju5 rfl rfl rfl (by decide) wl485 rfl (hC _ _ (by decide)) rfl (show _ = nI (hyV h + 1) by rw [jxs_at, if_pos ⟨rfl, rfl, rfl⟩, nI_add]) ?_
      refine j_iconst X (v := (nI 1)) (q := 105) d_M_write_104 (by decide +kernel) rfl ?_
      refine j_isub X (q := 106) d_M_write_105 rfl ?_
      refine j_iret X d_M_write_106 ?_
      refine ⟨?_, fun q => absurd ec.symm (by omega), fun _ => ⟨?_, ?_⟩, fun g hg => ?_⟩
      · unfold jnt; simp [jxs_at, ec]
      · exact congrArg (fun z => some (Sum.inl z)) (nI_pred (hyV h))
      · rw [ca, cb]
        have c0 : c = 0 := by omega
        subst c0
        rw [nI_add]
        exact jMs_addV (jMs_code hm)
      · unfold jnt
        simp only [jxs_g _ _ _ _ _ (show g ≠ 40 by omega), jxs_g _ _ _ _ _ (show g ≠ 41 by omega), jxs_g _ _ _ _ _ (show g ≠ 42 by omega), jxs_g _ _ _ _ _ (show g ≠ 43 by omega), jxs_g _ _ _ _ _ (show g ≠ 44 by omega), jxs_g _ _ _ _ _ (show g ≠ 45 by omega), jxs_g _ _ _ _ _ (show g ≠ 46 by omega), jxs_g _ _ _ _ _ (show g ≠ 47 by omega)]
    · have _b54 := True.intro
      refine j_iconst X (v := (nI 0)) (q := 58) d_M_write_57 (by decide +kernel) rfl ?_
      refine j_iret X d_M_write_58 ?_
      exact ⟨by rw [jxs_at, if_pos ⟨rfl, rfl, rfl⟩, ec], fun _ => ⟨rfl, jMs_code hm⟩, fun q => absurd q (by omega), fun g hg => jxs_g _ _ _ _ _ (by omega)⟩
  refine j_aload_n X (q := 1) d_M_write_0 rfl rfl ?_
  refine j_iload_n X (q := 2) d_M_write_1 rfl rfl ?_
  refine j_callS X (n := 1) d_M_write_2 (c_M_isOne hI a σ) wl528 wl529 wl42 wl530 (by decide +kernel) ⟨rfl, rfl⟩ (by decide) rfl rfl (Nat.le_of_ble_eq_true rfl) rfl (q := 5) rfl (fun r2 τ2 e2 => ?_)
  obtain ⟨rfl, rfl⟩ := e2
  refine j_bif_eq X (tgt := 15) (q := 8) d_M_write_5 (by decide) rfl (fun h5 => ?_) (fun h5 => ?_)
  · have _b5 := True.intro
    refine j_iconst X (v := (nI 1)) (q := 16) d_M_write_15 (by decide +kernel) rfl ?_
    refine j_goto X (tgt := 47) d_M_write_16 (by decide) ?_
    exact J47 1 (by unfold jwc; rw [if_neg (fun q => by rw [h5] at q; cases q.1)])
  · have _b5 := True.intro
    refine j_iload_n X (q := 9) d_M_write_8 rfl rfl ?_
    refine j_callS X (n := 1) d_M_write_9 (c_M_isItem hI b σ) wl531 wl532 wl42 wl533 (by decide +kernel) ⟨rfl, rfl⟩ (by decide) rfl rfl (Nat.le_of_ble_eq_true rfl) rfl (q := 12) rfl (fun r9 τ9 e9 => ?_)
    obtain ⟨rfl, rfl⟩ := e9
    refine j_bif_ne X (tgt := 19) (q := 15) d_M_write_12 (by decide) rfl (fun h12 => ?_) (fun h12 => ?_)
    · have _b12 := True.intro
      obtain ⟨t, ht, rfl⟩ := jin_of h5 (by decide)
      have ct : (nI t).toNatClampNeg = t := nI_clamp (by omega)
      refine j_aload_n X (q := 20) d_M_write_19 rfl rfl ?_
      refine j_getR X (C := jR5) (T := jT5) (N := 18) (ci := 5) (j := 1) (q := 23) d_M_write_20 ju5 rfl rfl rfl (by decide) wl484 rfl (hC _ _ (by decide)) rfl ?_
      refine j_iload_n X (q := 24) d_M_write_23 rfl rfl ?_
      refine j_iald X (q := 25) d_M_write_24 rfl (by decide) rfl ht (hC _ _ (by decide)) rfl (jMs_S hm ht) ?_
      refine j_iconst X (v := (nI 1)) (q := 26) d_M_write_25 (by decide +kernel) rfl ?_
      refine j_ncmp_le X (tgt := 33) (q := 29) d_M_write_26 (by decide) rfl (by have := jHw_S hw ht; omega) (by omega) (fun h26 => ?_) (fun h26 => ?_)
      · have _b26 := True.intro
        refine j_aload_n X (q := 34) d_M_write_33 rfl rfl ?_
        refine j_getI X (C := jR5) (T := jT5) (N := 18) (ci := 5) (j := 2) (q := 37) d_M_write_34 ju5 rfl rfl rfl (by decide) wl485 rfl (hC _ _ (by decide)) rfl (jMs_V hm) ?_
        refine j_bipush X (v := (nI 40)) (q := 39) d_M_write_37 (by decide +kernel) rfl ?_
        refine j_ncmp_ne X (tgt := 46) (q := 42) d_M_write_39 (by decide) rfl (by omega) (by omega) (fun h39 => ?_) (fun h39 => ?_)
        · have _b39 := True.intro
          refine j_iconst X (v := (nI 0)) (q := 47) d_M_write_46 (by decide +kernel) rfl ?_
          exact J47 0 (by unfold jwc; rw [if_pos ⟨h5, h12⟩, ct, if_neg (by omega), if_neg h39])
        · have _b39 := True.intro
          refine j_iconst X (v := (nI 3)) (q := 43) d_M_write_42 (by decide +kernel) rfl ?_
          refine j_goto X (tgt := 47) d_M_write_43 (by decide) ?_
          exact J47 3 (by unfold jwc; rw [if_pos ⟨h5, h12⟩, ct, if_neg (by omega), if_pos h39])
      · have _b26 := True.intro
        refine j_iconst X (v := (nI 2)) (q := 30) d_M_write_29 (by decide +kernel) rfl ?_
        refine j_goto X (tgt := 47) d_M_write_30 (by decide) ?_
        exact J47 2 (by unfold jwc; rw [if_pos ⟨h5, h12⟩, ct, if_pos (by omega)])
    · have _b12 := True.intro
      refine j_iconst X (v := (nI 1)) (q := 16) d_M_write_15 (by decide +kernel) rfl ?_
      refine j_goto X (tgt := 47) d_M_write_16 (by decide) ?_
      exact J47 1 (by unfold jwc; rw [if_neg (fun q => by rw [h12] at q; cases q.2)])
set_option maxRecDepth 100000 in
set_option maxHeartbeats 4000000 in
theorem c_M_read {l : Launch} {Θ : jxT} (hI : jxI Θ) (hC : ∀ g r, r < jrwM g → Θ.2.2.2 g r) {h : jH} {v : jV} {σ : jxM} (hw : jHw h) (hv : jVc h v) (hm : jMs h v σ) (a b y : Int32) : jxMet l y_M_read b_M_read 4 (some FieldType.int) (jrm 2) Θ [.inr (40, 0), .inl a, .inl b, .inl y] σ (fun r' σ' => σ' 40 0 0 = nI (jrc h a b y) ∧ (jrc h a b y ≠ 0 → r' = some (.inl (nI 0)) ∧ jMs h v σ') ∧ (jrc h a b y = 0 → r' = some (.inl (nI (hyR h + 1))) ∧ jMs (jaddR h a.toNatClampNeg b.toNatClampNeg (jyO y)) (jev v a.toNatClampNeg b.toNatClampNeg (jyO y) false) σ') ∧ ∀ g, g < 40 ∨ g = 60 → σ' g = σ g) := by
  refine jxMet.of (own := "HistoryJudgeModel") hI (by decide) rfl (Nat.le_of_ble_eq_true rfl) (fun Γ X => ?_)
  show jxW Γ Θ (fun r' σ' => σ' 40 0 0 = nI (jrc h a b y) ∧ (jrc h a b y ≠ 0 → r' = some (.inl (nI 0)) ∧ jMs h v σ') ∧ (jrc h a b y = 0 → r' = some (.inl (nI (hyR h + 1))) ∧ jMs (jaddR h a.toNatClampNeg b.toNatClampNeg (jyO y)) (jev v a.toNatClampNeg b.toNatClampNeg (jyO y) false) σ') ∧ ∀ g, g < 40 ∨ g = 60 → σ' g = σ g) 0 [some (.inr (40, 0)), some (.inl a), some (.inl b), some (.inl y)] [] σ
  have bV := jHw_V hw
  have bR := jHw_R hw
  have bE := hv.1
  have J60 : ∀ c : Nat, jrc h a b y = c → jxW Γ Θ (fun r' σ' => σ' 40 0 0 = nI (jrc h a b y) ∧ (jrc h a b y ≠ 0 → r' = some (.inl (nI 0)) ∧ jMs h v σ') ∧ (jrc h a b y = 0 → r' = some (.inl (nI (hyR h + 1))) ∧ jMs (jaddR h a.toNatClampNeg b.toNatClampNeg (jyO y)) (jev v a.toNatClampNeg b.toNatClampNeg (jyO y) false) σ') ∧ ∀ g, g < 40 ∨ g = 60 → σ' g = σ g) 60 [some (.inr (40, 0)), some (.inl a), some (.inl b), some (.inl y)] [.inl (nI c), .inr (40, 0)] σ := by
    intro c ec
    have c4 := jrc_5 h a b y
    refine j_putI X (C := jR5) (T := jT5) (N := 18) (ci := 5) (j := 0) (q := 63) d_M_read_60 ju5 rfl rfl jt5 jt5_ok jn5 rfl (by decide) wl483 rfl (hC _ _ (by decide)) rfl rfl (ty := .int) rfl rfl rfl ?_
    refine j_aload_n X (q := 64) d_M_read_63 rfl rfl ?_
    refine j_getI X (C := jR5) (T := jT5) (N := 18) (ci := 5) (j := 0) (q := 67) d_M_read_64 ju5 rfl rfl rfl (by decide) wl483 rfl (hC _ _ (by decide)) rfl (show _ = nI c by rw [jxs_at, if_pos ⟨rfl, rfl, rfl⟩]) ?_
    refine j_nif_le X (tgt := 72) (q := 70) d_M_read_67 (by decide) rfl (by omega) (fun h67 => ?_) (fun h67 => ?_)
    · have _b67 := True.intro
      obtain ⟨t, x, ht, hx, ea, eb, ca, cb, hs0, hs1, hs2⟩ := jrc_0 (h := h) (a := a) (b := b) (y := y) (by omega)
      refine jxW.to (L' := [some (.inr (40, 0)), some (.inl (nI t)), some (.inl (nI x)), some (.inl y)]) (by simp [jfg]; exact ⟨ea, eb⟩) ?_
      refine j_aload_n X (q := 73) d_M_read_72 rfl rfl ?_
      refine j_iload_n X (q := 74) d_M_read_73 rfl rfl ?_
      refine j_iload_n X (q := 75) d_M_read_74 rfl rfl ?_
      refine j_iload_n X (q := 76) d_M_read_75 rfl rfl ?_
      refine j_iconst X (v := (nI 0)) (q := 77) d_M_read_76 (by decide +kernel) rfl ?_
      refine j_callV X (n := 4) (C := jR5) (T := jT5) (N := 18) d_M_read_77 (c_M_note hI hC (E := evE v) (t := t) (show _ = nI (evE v) by simp [jxs_at]; exact jMs_E hm) (by omega) ht x y false) rfl rfl (hC _ _ (by decide)) wl534 wl535 wl15 wl42 wl536 (by decide +kernel) ⟨rfl, rfl⟩ (by decide) rfl rfl (Nat.le_of_ble_eq_true rfl) rfl (q := 80) rfl (fun r77 τ77 e77 => ?_)
      obtain ⟨rfl, rfl⟩ := e77
      refine j_aload_n X (q := 81) d_M_read_80 rfl rfl ?_
      refine j_aload_n X (q := 82) d_M_read_81 rfl rfl ?_
      refine j_getI X (C := jR5) (T := jT5) (N := 18) (ci := 5) (j := 5) (q := 85) d_M_read_82 ju5 rfl rfl rfl (by decide) wl488 rfl (hC _ _ (by decide)) rfl (show _ = nI (hyR h) by unfold jnt; simp [jxs_at]; exact jMs_R hm) ?_
      refine j_iconst X (v := (nI 1)) (q := 86) d_M_read_85 (by decide +kernel) rfl ?_
      refine j_iadd X (q := 87) d_M_read_86 rfl ?_
      refine j_putI X (C := jR5) (T := jT5) (N := 18) (ci := 5) (j := 5) (q := 90) d_M_read_87 ju5 rfl rfl jt5 jt5_ok jn5 rfl (by decide) wl488 rfl (hC _ _ (by decide)) rfl rfl (ty := .int) rfl rfl rfl ?_
      refine j_aload_n X (q := 91) d_M_read_90 rfl rfl ?_
      refine j_getI X (C := jR5) (T := jT5) (N := 18) (ci := 5) (j := 5) (q := 94) d_M_read_91 ju5 rfl rfl rfl (by decide) wl488 rfl (hC _ _ (by decide)) rfl (show _ = nI (hyR h + 1) by rw [jxs_at, if_pos ⟨rfl, rfl, rfl⟩, nI_add]) ?_
      refine j_iret X d_M_read_94 ?_
      refine ⟨?_, fun q => absurd ec.symm (by omega), fun _ => ⟨rfl, ?_⟩, fun g hg => ?_⟩
      · unfold jnt; simp [jxs_at, ec]
      · rw [ca, cb]
        have c0 : c = 0 := by omega
        subst c0
        rw [nI_add]
        have hy := (jhv_o (by omega) hs0).1
        have key := jMs_addR (t := t) (x := x) (o := jyO y) (jMs_code (c := nI 0) hm)
        rw [← hy] at key
        exact key
      · unfold jnt
        simp only [jxs_g _ _ _ _ _ (show g ≠ 40 by omega), jxs_g _ _ _ _ _ (show g ≠ 41 by omega), jxs_g _ _ _ _ _ (show g ≠ 42 by omega), jxs_g _ _ _ _ _ (show g ≠ 43 by omega), jxs_g _ _ _ _ _ (show g ≠ 44 by omega), jxs_g _ _ _ _ _ (show g ≠ 45 by omega), jxs_g _ _ _ _ _ (show g ≠ 46 by omega), jxs_g _ _ _ _ _ (show g ≠ 47 by omega)]
    · have _b67 := True.intro
      refine j_iconst X (v := (nI 0)) (q := 71) d_M_read_70 (by decide +kernel) rfl ?_
      refine j_iret X d_M_read_71 ?_
      exact ⟨by rw [jxs_at, if_pos ⟨rfl, rfl, rfl⟩, ec], fun _ => ⟨rfl, jMs_code hm⟩, fun q => absurd q (by omega), fun g hg => jxs_g _ _ _ _ _ (by omega)⟩
  refine j_aload_n X (q := 1) d_M_read_0 rfl rfl ?_
  refine j_iload_n X (q := 2) d_M_read_1 rfl rfl ?_
  refine j_callS X (n := 1) d_M_read_2 (c_M_isOne hI a σ) wl528 wl529 wl42 wl530 (by decide +kernel) ⟨rfl, rfl⟩ (by decide) rfl rfl (Nat.le_of_ble_eq_true rfl) rfl (q := 5) rfl (fun r2 τ2 e2 => ?_)
  obtain ⟨rfl, rfl⟩ := e2
  refine j_bif_eq X (tgt := 15) (q := 8) d_M_read_5 (by decide) rfl (fun h5 => ?_) (fun h5 => ?_)
  · have _b5 := True.intro
    refine j_iconst X (v := (nI 1)) (q := 16) d_M_read_15 (by decide +kernel) rfl ?_
    refine j_goto X (tgt := 60) d_M_read_16 (by decide) ?_
    exact J60 1 (by unfold jrc; rw [if_neg (fun q => by rw [h5] at q; cases q.1)])
  · have _b5 := True.intro
    refine j_iload_n X (q := 9) d_M_read_8 rfl rfl ?_
    refine j_callS X (n := 1) d_M_read_9 (c_M_isItem hI b σ) wl531 wl532 wl42 wl533 (by decide +kernel) ⟨rfl, rfl⟩ (by decide) rfl rfl (Nat.le_of_ble_eq_true rfl) rfl (q := 12) rfl (fun r9 τ9 e9 => ?_)
    obtain ⟨rfl, rfl⟩ := e9
    refine j_bif_ne X (tgt := 19) (q := 15) d_M_read_12 (by decide) rfl (fun h12 => ?_) (fun h12 => ?_)
    · have _b12 := True.intro
      obtain ⟨t, ht, rfl⟩ := jin_of h5 (by decide)
      have ct : (nI t).toNatClampNeg = t := nI_clamp (by omega)
      obtain ⟨x, hx, rfl⟩ := jin_of h12 (by decide)
      have cx : (nI x).toNatClampNeg = x := nI_clamp (by omega)
      refine j_aload_n X (q := 20) d_M_read_19 rfl rfl ?_
      refine j_iload_n X (q := 21) d_M_read_20 rfl rfl ?_
      refine j_iload_n X (q := 22) d_M_read_21 rfl rfl ?_
      refine j_callV X (n := 2) (C := jR5) (T := jT5) (N := 18) d_M_read_22 (c_M_isVersion hI hC hw hv hm hx y) rfl rfl (hC _ _ (by decide)) wl541 wl542 wl16 wl42 wl543 (by decide +kernel) ⟨rfl, rfl⟩ (by decide) rfl rfl (Nat.le_of_ble_eq_true rfl) rfl (q := 25) rfl (fun r22 τ22 e22 => ?_)
      obtain ⟨rfl, rfl⟩ := e22
      refine j_bif_ne X (tgt := 32) (q := 28) d_M_read_25 (by decide) rfl (fun h25 => ?_) (fun h25 => ?_)
      · have _b25 := True.intro
        refine j_aload_n X (q := 33) d_M_read_32 rfl rfl ?_
        refine j_getR X (C := jR5) (T := jT5) (N := 18) (ci := 5) (j := 1) (q := 36) d_M_read_33 ju5 rfl rfl rfl (by decide) wl484 rfl (hC _ _ (by decide)) rfl ?_
        refine j_iload_n X (q := 37) d_M_read_36 rfl rfl ?_
        refine j_iald X (q := 38) d_M_read_37 rfl (by decide) rfl ht (hC _ _ (by decide)) rfl (jMs_S hm ht) ?_
        refine j_iconst X (v := (nI 1)) (q := 39) d_M_read_38 (by decide +kernel) rfl ?_
        refine j_ncmp_le X (tgt := 46) (q := 42) d_M_read_39 (by decide) rfl (by have := jHw_S hw ht; omega) (by omega) (fun h39 => ?_) (fun h39 => ?_)
        · have _b39 := True.intro
          refine j_aload_n X (q := 47) d_M_read_46 rfl rfl ?_
          refine j_getI X (C := jR5) (T := jT5) (N := 18) (ci := 5) (j := 5) (q := 50) d_M_read_47 ju5 rfl rfl rfl (by decide) wl488 rfl (hC _ _ (by decide)) rfl (jMs_R hm) ?_
          refine j_bipush X (v := (nI 60)) (q := 52) d_M_read_50 (by decide +kernel) rfl ?_
          refine j_ncmp_ne X (tgt := 59) (q := 55) d_M_read_52 (by decide) rfl (by omega) (by omega) (fun h52 => ?_) (fun h52 => ?_)
          · have _b52 := True.intro
            refine j_iconst X (v := (nI 0)) (q := 60) d_M_read_59 (by decide +kernel) rfl ?_
            exact J60 0 (by unfold jrc; rw [if_pos ⟨h5, h12⟩, ct, cx, if_pos h25, if_neg (by omega), if_neg h52])
          · have _b52 := True.intro
            refine j_iconst X (v := (nI 4)) (q := 56) d_M_read_55 (by decide +kernel) rfl ?_
            refine j_goto X (tgt := 60) d_M_read_56 (by decide) ?_
            exact J60 4 (by unfold jrc; rw [if_pos ⟨h5, h12⟩, ct, cx, if_pos h25, if_neg (by omega), if_pos h52])
        · have _b39 := True.intro
          refine j_iconst X (v := (nI 3)) (q := 43) d_M_read_42 (by decide +kernel) rfl ?_
          refine j_goto X (tgt := 60) d_M_read_43 (by decide) ?_
          exact J60 3 (by unfold jrc; rw [if_pos ⟨h5, h12⟩, ct, cx, if_pos h25, if_pos (by omega)])
      · have _b25 := True.intro
        refine j_iconst X (v := (nI 2)) (q := 29) d_M_read_28 (by decide +kernel) rfl ?_
        refine j_goto X (tgt := 60) d_M_read_29 (by decide) ?_
        exact J60 2 (by unfold jrc; rw [if_pos ⟨h5, h12⟩, ct, cx, if_neg (by rw [h25]; exact Bool.false_ne_true)])
    · have _b12 := True.intro
      refine j_iconst X (v := (nI 1)) (q := 16) d_M_read_15 (by decide +kernel) rfl ?_
      refine j_goto X (tgt := 60) d_M_read_16 (by decide) ?_
      exact J60 1 (by unfold jrc; rw [if_neg (fun q => by rw [h12] at q; cases q.2)])
set_option maxRecDepth 100000 in
set_option maxHeartbeats 4000000 in
theorem c_M_end {l : Launch} {Θ : jxT} (hI : jxI Θ) (hC : ∀ g r, r < jrwM g → Θ.2.2.2 g r) {h : jH} {v : jV} {σ : jxM} (hw : jHw h) (hv : jVc h v) (hm : jMs h v σ) (a : Int32) (b : Bool) : jxMet l y_M_end b_M_end 5 none (jrm 2) Θ [.inr (40, 0), .inl a, .inl (jB b)] σ (fun r' σ' => r' = none ∧ σ' 40 0 0 = nI (jec h a) ∧ (jec h a ≠ 0 → jMs h v σ') ∧ (jec h a = 0 → b = true → jMs (jcomP h a.toNatClampNeg 6) v σ') ∧ (jec h a = 0 → b = false → jMs (jend h a.toNatClampNeg 3) v σ') ∧ ∀ g, g < 40 → σ' g = σ g) := by
  refine jxMet.of (own := "HistoryJudgeModel") hI (by decide) rfl (Nat.le_of_ble_eq_true rfl) (fun Γ X => ?_)
  show jxW Γ Θ (fun r' σ' => r' = none ∧ σ' 40 0 0 = nI (jec h a) ∧ (jec h a ≠ 0 → jMs h v σ') ∧ (jec h a = 0 → b = true → jMs (jcomP h a.toNatClampNeg 6) v σ') ∧ (jec h a = 0 → b = false → jMs (jend h a.toNatClampNeg 3) v σ') ∧ ∀ g, g < 40 → σ' g = σ g) 0 [some (.inr (40, 0)), some (.inl a), some (.inl (jB b)), none, none] [] σ
  have bV := jHw_V hw
  have J27 : ∀ c : Nat, jec h a = c → jxW Γ Θ (fun r' σ' => r' = none ∧ σ' 40 0 0 = nI (jec h a) ∧ (jec h a ≠ 0 → jMs h v σ') ∧ (jec h a = 0 → b = true → jMs (jcomP h a.toNatClampNeg 6) v σ') ∧ (jec h a = 0 → b = false → jMs (jend h a.toNatClampNeg 3) v σ') ∧ ∀ g, g < 40 → σ' g = σ g) 27 [some (.inr (40, 0)), some (.inl a), some (.inl (jB b)), none, none] [.inl (nI c), .inr (40, 0)] σ := by
    intro c ec
    have c4 := jec_3 h a
    refine j_putI X (C := jR5) (T := jT5) (N := 18) (ci := 5) (j := 0) (q := 30) d_M_end_27 ju5 rfl rfl jt5 jt5_ok jn5 rfl (by decide) wl483 rfl (hC _ _ (by decide)) rfl rfl (ty := .int) rfl rfl rfl ?_
    refine j_aload_n X (q := 31) d_M_end_30 rfl rfl ?_
    refine j_getI X (C := jR5) (T := jT5) (N := 18) (ci := 5) (j := 0) (q := 34) d_M_end_31 ju5 rfl rfl rfl (by decide) wl483 rfl (hC _ _ (by decide)) rfl (show _ = nI c by rw [jxs_at, if_pos ⟨rfl, rfl, rfl⟩]) ?_
    refine j_nif_le X (tgt := 38) (q := 37) d_M_end_34 (by decide) rfl (by omega) (fun h34 => ?_) (fun h34 => ?_)
    · have _b34 := True.intro
      obtain ⟨t, ht, ea, ca, hs1⟩ := jec_0 (h := h) (a := a) (by omega)
      have e0 : jec h a = 0 := by omega
      have c0 : c = 0 := by omega
      have h8 : ∀ x, x < 6 → hyon h x < 8 := fun x hx => jon_lt hw ht (by omega) hx
      refine jxW.to (L' := [some (.inr (40, 0)), some (.inl (nI t)), some (.inl (jB b)), none, none]) (by simp [jfg]; exact ea) ?_
      have K : ∀ (N : Nat) (k : Nat) (σ1 : jxM), hyV h - k < N → k ≤ hyV h → σ1 40 0 2 = nI (hyV h) → σ1 40 0 0 = nI 0 → (b = true → jMk h v t k σ1) → (b = false → jMs (jend h t 3) v σ1) → (∀ g, g < 40 → σ1 g = σ g) → jxW Γ Θ (fun r' σ' => r' = none ∧ σ' 40 0 0 = nI (jec h a) ∧ (jec h a ≠ 0 → jMs h v σ') ∧ (jec h a = 0 → b = true → jMs (jcomP h a.toNatClampNeg 6) v σ') ∧ (jec h a = 0 → b = false → jMs (jend h a.toNatClampNeg 3) v σ') ∧ ∀ g, g < 40 → σ' g = σ g) 55 [some (.inr (40, 0)), some (.inl (nI t)), some (.inl (jB b)), some (.inl (nI k)), none] [] σ1 := by
        intro N
        induction N with
        | zero => intro k σ1 hn; exact absurd hn (Nat.not_lt_zero _)
        | succ N ih =>
          intro k σ1 hn hk hV hc0 hk1 hk0 hf
          refine j_iload_n X (q := 56) d_M_end_55 rfl rfl ?_
          refine j_aload_n X (q := 57) d_M_end_56 rfl rfl ?_
          refine j_getI X (C := jR5) (T := jT5) (N := 18) (ci := 5) (j := 2) (q := 60) d_M_end_57 ju5 rfl rfl rfl (by decide) wl485 rfl (hC _ _ (by decide)) rfl hV ?_
          refine j_ncmp_ge X (tgt := 134) (q := 63) d_M_end_60 (by decide) rfl (by omega) (by omega) (fun h60 => ?_) (fun h60 => ?_)
          · have _b60 := True.intro
            refine j_vret X d_M_end_134 ?_
            have ek : k = hyV h := by omega
            subst ek
            exact ⟨rfl, by rw [hc0, e0], fun q => absurd e0 q, fun _ q => (by rw [ca]; exact jMk_end hw ht (hk1 q)), fun _ q => (by rw [ca]; exact hk0 q), hf⟩
          · have _b60 := True.intro
            refine j_iload_n X (q := 64) d_M_end_63 rfl rfl ?_
            refine j_bif_eq X (tgt := 134) (q := 67) d_M_end_64 (by decide) rfl (fun h64 => ?_) (fun h64 => ?_)
            · have _b64 := True.intro
              refine j_vret X d_M_end_134 ?_
              exact ⟨rfl, by rw [hc0, e0], fun q => absurd e0 q, fun _ q => (by rw [h64] at q; cases q), fun _ q => (by rw [ca]; exact hk0 q), hf⟩
            · have _b64 := True.intro
              refine j_aload_n X (q := 68) d_M_end_67 rfl rfl ?_
              refine j_getR X (C := jR5) (T := jT5) (N := 18) (ci := 5) (j := 3) (q := 71) d_M_end_68 ju5 rfl rfl rfl (by decide) wl486 rfl (hC _ _ (by decide)) rfl ?_
              refine j_iload_n X (q := 72) d_M_end_71 rfl rfl ?_
              refine j_iald X (q := 73) d_M_end_72 rfl (by decide) rfl (by omega) (hC _ _ (by decide)) rfl ((jMk_mv (hk1 h64)).2 k (by omega)).1 ?_
              refine j_iload_n X (q := 74) d_M_end_73 rfl rfl ?_
              refine j_ncmp_ne X (tgt := 128) (q := 77) d_M_end_74 (by decide) rfl (by have := jHw_W hw (show k < hyV h by omega); omega) (by omega) (fun h74 => ?_) (fun h74 => ?_)
              · have _b74 := True.intro
                refine j_iinc X (q := 131) d_M_end_128 rfl (j_inc1 _) rfl ?_
                refine j_goto X (tgt := 55) d_M_end_131 (by decide) ?_
                refine jxW.to (L' := [some (.inr (40, 0)), some (.inl (nI t)), some (.inl (jB b)), some (.inl (nI (k + 1))), none]) (by simp [jfg]) ?_
                exact ih (k + 1) _ (by omega) (by omega) hV hc0 (fun q => jMk_no (hk1 q) (fun x hx e => h74 (jHw_lt hw ht hx e).2.1)) hk0 hf
              · have _b74 := True.intro
                refine j_aload_n X (q := 78) d_M_end_77 rfl rfl ?_
                refine j_iload_n X (q := 79) d_M_end_78 rfl rfl ?_
                refine j_callV X (n := 1) (C := jR5) (T := jT5) (N := 18) d_M_end_79 (c_M_isFinal hI hC hw hv (jMk_mv (hk1 h64)) (w := k) (by omega)) rfl rfl (hC _ _ (by decide)) wl548 wl549 wl17 wl42 wl550 (by decide +kernel) ⟨rfl, rfl⟩ (by decide) rfl rfl (Nat.le_of_ble_eq_true rfl) rfl (q := 82) rfl (fun r79 τ79 e79 => ?_)
                obtain ⟨rfl, rfl⟩ := e79
                refine j_bif_eq X (tgt := 128) (q := 85) d_M_end_82 (by decide) rfl (fun h82 => ?_) (fun h82 => ?_)
                · have _b82 := True.intro
                  refine j_iinc X (q := 131) d_M_end_128 rfl (j_inc1 _) rfl ?_
                  refine j_goto X (tgt := 55) d_M_end_131 (by decide) ?_
                  refine jxW.to (L' := [some (.inr (40, 0)), some (.inl (nI t)), some (.inl (jB b)), some (.inl (nI (k + 1))), none]) (by simp [jfg]) ?_
                  exact ih (k + 1) _ (by omega) (by omega) hV hc0 (fun q => jMk_no (hk1 q) (fun x hx e => jdec_f h82 (by have q := jHw_lt hw ht hx e; rw [q.2.1, q.2.2]; exact e))) hk0 hf
                · have _b82 := True.intro
                  have bI := jHw_I hw (show k < hyV h by omega)
                  have elt : hylt h t (hyI h k) = some k := by rw [← h74]; exact jdec_t h82
                  have elk : jlk h t (hyI h k) k = false := by unfold jlk; rw [elt]; exact decide_eq_false (by omega)
                  refine j_aload_n X (q := 86) d_M_end_85 rfl rfl ?_
                  refine j_getR X (C := jR5) (T := jT5) (N := 18) (ci := 5) (j := 4) (q := 89) d_M_end_86 ju5 rfl rfl rfl (by decide) wl487 rfl (hC _ _ (by decide)) rfl ?_
                  refine j_iload_n X (q := 90) d_M_end_89 rfl rfl ?_
                  refine j_iald X (q := 91) d_M_end_90 rfl (by decide) rfl (by omega) (hC _ _ (by decide)) rfl ((jMk_mv (hk1 h64)).2 k (by omega)).2 ?_
                  refine j_istore X (q := 93) d_M_end_91 (Nat.le_of_ble_eq_true rfl) rfl ?_
                  refine j_aload_n X (q := 94) d_M_end_93 rfl rfl ?_
                  refine j_getR X (C := jR5) (T := jT5) (N := 18) (ci := 5) (j := 12) (q := 97) d_M_end_94 ju5 rfl rfl rfl (by decide) wl495 rfl (hC _ _ (by decide)) rfl ?_
                  refine j_bipush X (v := (nI 8)) (q := 99) d_M_end_97 (by decide +kernel) rfl ?_
                  refine j_iload X (q := 101) d_M_end_99 rfl rfl ?_
                  refine j_imul X (q := 102) d_M_end_101 rfl ?_
                  refine j_aload_n X (q := 103) d_M_end_102 rfl rfl ?_
                  refine j_getR X (C := jR5) (T := jT5) (N := 18) (ci := 5) (j := 11) (q := 106) d_M_end_103 ju5 rfl rfl rfl (by decide) wl494 rfl (hC _ _ (by decide)) rfl ?_
                  refine j_iload X (q := 108) d_M_end_106 rfl rfl ?_
                  refine j_iald X (j := hyI h k) (q := 109) d_M_end_108 rfl (by decide) rfl bI (hC _ _ (by decide)) rfl (show _ = nI (hyon h (hyI h k)) by rw [(hk1 h64).2.2.2.2.2.2.1 _ bI, elk]; rfl) ?_
                  refine j_iadd X (q := 110) d_M_end_109 rfl ?_
                  refine j_iload_n X (q := 111) d_M_end_110 rfl rfl ?_
                  refine j_iast X (j := 8 * hyI h k + hyon h (hyI h k)) (q := 112) d_M_end_111 rfl (by decide) (j_ix 8 _ _) (by have := h8 _ bI; omega) (hC _ _ (by decide)) rfl ?_
                  refine j_aload_n X (q := 113) d_M_end_112 rfl rfl ?_
                  refine j_getR X (C := jR5) (T := jT5) (N := 18) (ci := 5) (j := 11) (q := 116) d_M_end_113 ju5 rfl rfl rfl (by decide) wl494 rfl (hC _ _ (by decide)) rfl ?_
                  refine j_iload X (q := 118) d_M_end_116 rfl rfl ?_
                  refine j_aload_n X (q := 119) d_M_end_118 rfl rfl ?_
                  refine j_getR X (C := jR5) (T := jT5) (N := 18) (ci := 5) (j := 11) (q := 122) d_M_end_119 ju5 rfl rfl rfl (by decide) wl494 rfl (hC _ _ (by decide)) rfl ?_
                  refine j_iload X (q := 124) d_M_end_122 rfl rfl ?_
                  refine j_iald X (j := hyI h k) (q := 125) d_M_end_124 rfl (by decide) rfl bI (hC _ _ (by decide)) rfl (show _ = nI (hyon h (hyI h k)) by rw [jxs_g _ _ _ _ _ (by decide), (hk1 h64).2.2.2.2.2.2.1 _ bI, elk]; rfl) ?_
                  refine j_iconst X (v := (nI 1)) (q := 126) d_M_end_125 (by decide +kernel) rfl ?_
                  refine j_iadd X (q := 127) d_M_end_126 rfl ?_
                  refine j_iast X (j := hyI h k) (q := 128) d_M_end_127 rfl (by decide) rfl bI (hC _ _ (by decide)) rfl ?_
                  refine j_iinc X (q := 131) d_M_end_128 rfl (j_inc1 _) rfl ?_
                  refine j_goto X (tgt := 55) d_M_end_131 (by decide) ?_
                  refine jxW.to (L' := [some (.inr (40, 0)), some (.inl (nI t)), some (.inl (jB b)), some (.inl (nI (k + 1))), none]) (by simp [jfg]) ?_
                  exact ih (k + 1) _ (by omega) (by omega) (by simp [jxs_at]; exact hV) (by simp [jxs_at]; exact hc0) (fun q => jMk_yes hw (hk1 q) bI h8 elt (fun x' hx' hne e => hne (jHw_lt hw ht hx' e).2.2.symm)) (fun q => by rw [h64] at q; cases q) (fun g hg => by rw [jxs_g _ _ _ _ _ (by omega), jxs_g _ _ _ _ _ (by omega)]; exact hf g hg)
      refine j_aload_n X (q := 39) d_M_end_38 rfl rfl ?_
      refine j_getR X (C := jR5) (T := jT5) (N := 18) (ci := 5) (j := 1) (q := 42) d_M_end_39 ju5 rfl rfl rfl (by decide) wl484 rfl (hC _ _ (by decide)) rfl ?_
      refine j_iload_n X (q := 43) d_M_end_42 rfl rfl ?_
      refine j_iload_n X (q := 44) d_M_end_43 rfl rfl ?_
      refine j_bif_eq X (tgt := 51) (q := 47) d_M_end_44 (by decide) rfl (fun h44 => ?_) (fun h44 => ?_)
      · have _b44 := True.intro
        refine j_iconst X (v := (nI 3)) (q := 52) d_M_end_51 (by decide +kernel) rfl ?_
        refine j_iast X (j := t) (q := 53) d_M_end_52 rfl (by decide) rfl ht (hC _ _ (by decide)) rfl ?_
        refine j_iconst X (v := (nI 0)) (q := 54) d_M_end_53 (by decide +kernel) rfl ?_
        refine j_istore_n X (j := 3) (q := 55) d_M_end_54 rfl (Nat.le_of_ble_eq_true rfl) rfl ?_
        exact K (hyV h + 1) 0 _ (by omega) (by omega) (by simp [jxs_at]; exact jMs_V hm) (by simp [jxs_at, c0]) (fun q => by rw [h44] at q; cases q) (fun _ => jMs_end (jMs_code hm)) (fun g hg => by rw [jxs_g _ _ _ _ _ (by omega), jxs_g _ _ _ _ _ (by omega)])
      · have _b44 := True.intro
        refine j_iconst X (v := (nI 2)) (q := 48) d_M_end_47 (by decide +kernel) rfl ?_
        refine j_goto X (tgt := 52) d_M_end_48 (by decide) ?_
        refine j_iast X (j := t) (q := 53) d_M_end_52 rfl (by decide) rfl ht (hC _ _ (by decide)) rfl ?_
        refine j_iconst X (v := (nI 0)) (q := 54) d_M_end_53 (by decide +kernel) rfl ?_
        refine j_istore_n X (j := 3) (q := 55) d_M_end_54 rfl (Nat.le_of_ble_eq_true rfl) rfl ?_
        exact K (hyV h + 1) 0 _ (by omega) (by omega) (by simp [jxs_at]; exact jMs_V hm) (by simp [jxs_at, c0]) (fun _ => jMk_0 (jMs_end (jMs_code hm))) (fun q => by rw [h44] at q; cases q) (fun g hg => by rw [jxs_g _ _ _ _ _ (by omega), jxs_g _ _ _ _ _ (by omega)])
    · have _b34 := True.intro
      refine j_vret X d_M_end_37 ?_
      exact ⟨rfl, by rw [jxs_at, if_pos ⟨rfl, rfl, rfl⟩, ec], fun _ => jMs_code hm, fun q => absurd q (by omega), fun q => absurd q (by omega), fun g hg => jxs_g _ _ _ _ _ (by omega)⟩
  refine j_aload_n X (q := 1) d_M_end_0 rfl rfl ?_
  refine j_iload_n X (q := 2) d_M_end_1 rfl rfl ?_
  refine j_callS X (n := 1) d_M_end_2 (c_M_isOne hI a σ) wl528 wl529 wl42 wl530 (by decide +kernel) ⟨rfl, rfl⟩ (by decide) rfl rfl (Nat.le_of_ble_eq_true rfl) rfl (q := 5) rfl (fun r2 τ2 e2 => ?_)
  obtain ⟨rfl, rfl⟩ := e2
  refine j_bif_ne X (tgt := 12) (q := 8) d_M_end_5 (by decide) rfl (fun h5 => ?_) (fun h5 => ?_)
  · have _b5 := True.intro
    obtain ⟨t, ht, rfl⟩ := jin_of h5 (by decide)
    have ct : (nI t).toNatClampNeg = t := nI_clamp (by omega)
    refine j_aload_n X (q := 13) d_M_end_12 rfl rfl ?_
    refine j_getR X (C := jR5) (T := jT5) (N := 18) (ci := 5) (j := 1) (q := 16) d_M_end_13 ju5 rfl rfl rfl (by decide) wl484 rfl (hC _ _ (by decide)) rfl ?_
    refine j_iload_n X (q := 17) d_M_end_16 rfl rfl ?_
    refine j_iald X (q := 18) d_M_end_17 rfl (by decide) rfl ht (hC _ _ (by decide)) rfl (jMs_S hm ht) ?_
    refine j_iconst X (v := (nI 1)) (q := 19) d_M_end_18 (by decide +kernel) rfl ?_
    refine j_ncmp_eq X (tgt := 26) (q := 22) d_M_end_19 (by decide) rfl (by have := jHw_S hw ht; omega) (by omega) (fun h19 => ?_) (fun h19 => ?_)
    · have _b19 := True.intro
      refine j_iconst X (v := (nI 0)) (q := 27) d_M_end_26 (by decide +kernel) rfl ?_
      exact J27 0 (by unfold jec; rw [if_pos h5, ct, if_pos h19])
    · have _b19 := True.intro
      refine j_iconst X (v := (nI 2)) (q := 23) d_M_end_22 (by decide +kernel) rfl ?_
      refine j_goto X (tgt := 27) d_M_end_23 (by decide) ?_
      exact J27 2 (by unfold jec; rw [if_pos h5, ct, if_neg h19])
  · have _b5 := True.intro
    refine j_iconst X (v := (nI 1)) (q := 9) d_M_end_8 (by decide +kernel) rfl ?_
    refine j_goto X (tgt := 27) d_M_end_9 (by decide) ?_
    exact J27 1 (by unfold jec; rw [if_neg (by rw [h5]; exact Bool.false_ne_true)])
