/-! The reference: cycles, flaws, level. -/
theorem jfm_50 {σ τ : jxM} (h : ∀ g', g' < 50 ∨ 52 < g' → τ g' = σ g') : jfm σ τ := ⟨fun g _ h2 => h g (by omega), fun j _ _ => by rw [h 40 (by decide)]⟩
theorem jDr_keep {h : jH} {σ τ : jxM} (k : jDr h σ) (e : τ 50 = σ 50) : jDr h τ := fun a b ha hb => by rw [e]; exact k a b ha hb
set_option maxRecDepth 100000 in
set_option maxHeartbeats 4000000 in
theorem c_M_findCycle {l : Launch} {Θ : jxT} (hI : jxI Θ) (hC : ∀ g r, r < jrwM g → Θ.2.2.2 g r) {h : jH} {v : jV} {σ : jxM} (hw : jHw h) (hv : jVc h v) (hm : jMs h v σ) (x : Int32) : jxMet l y_M_findCycle b_M_findCycle 3 (some FieldType.int) (jrm 5) Θ [.inr (40, 0), .inl x] σ (fun r' σ' => (∃ len, len ≤ 8 ∧ r' = some (.inl (nI len)) ∧ (jin x 4 = false → len = 0) ∧ ∀ k, k < 4 → x = nI k → (len = 0 → ∀ n r, 2 ≤ n → n ≤ 8 → ¬ jSc h k n r) ∧ (len ≠ 0 → ∃ row : Nat → Nat, (∀ i, i < len → σ' 51 0 i = nI (row i)) ∧ jmn (jSc h k) len row)) ∧ ∀ g', g' < 50 ∨ 52 < g' → σ' g' = σ g') := by
  refine jxMet.of (own := "HistoryJudgeModel") hI (by decide) rfl (Nat.le_of_ble_eq_true rfl) (fun Γ X => ?_)
  show jxW Γ Θ (fun r' σ' => (∃ len, len ≤ 8 ∧ r' = some (.inl (nI len)) ∧ (jin x 4 = false → len = 0) ∧ ∀ k, k < 4 → x = nI k → (len = 0 → ∀ n r, 2 ≤ n → n ≤ 8 → ¬ jSc h k n r) ∧ (len ≠ 0 → ∃ row : Nat → Nat, (∀ i, i < len → σ' 51 0 i = nI (row i)) ∧ jmn (jSc h k) len row)) ∧ ∀ g', g' < 50 ∨ 52 < g' → σ' g' = σ g') 0 [some (.inr (40, 0)), some (.inl x), none] [] σ
  refine j_iload_n X (q := 1) d_M_findCycle_0 rfl rfl ?_
  refine j_if_lt X (tgt := 9) (q := 4) d_M_findCycle_1 (by decide) rfl (fun h1 => ?_) (fun h1 => ?_)
  · have _b1 := True.intro
    have hin : jin x 4 = false := jin_neg h1
    refine j_iconst X (v := (nI 0)) (q := 10) d_M_findCycle_9 (by decide +kernel) rfl ?_
    refine j_iret X d_M_findCycle_10 ?_
    exact ⟨⟨0, by omega, rfl, fun _ => rfl, fun k hk e => by subst e; rw [jin_nI (by omega), decide_eq_true hk] at hin; cases hin⟩, fun _ _ => rfl⟩
  · have _b1 := True.intro
    refine j_iload_n X (q := 5) d_M_findCycle_4 rfl rfl ?_
    refine j_iconst X (v := (nI 3)) (q := 6) d_M_findCycle_5 (by decide +kernel) rfl ?_
    refine j_icmp_le X (tgt := 11) (q := 9) d_M_findCycle_6 (by decide) rfl (fun h6 => ?_) (fun h6 => ?_)
    · have _b6 := True.intro
      have hin : jin x 4 = true := jin_yes (by omega) h1 (fun z => by
        have g1 := Int32.le_iff_toInt_le.mp h6
        have g2 := Int32.le_iff_toInt_le.mp z
        have g3 : (nI 3).toInt = 3 := nI_toInt (by decide)
        have g4 : (nI 4).toInt = 4 := nI_toInt (by decide)
        omega)
      obtain ⟨k, hk, ek⟩ := jin_of hin (by omega)
      have K : ∀ (N : Nat) (n : Nat) (σ1 : jxM), 9 - n < N → 2 ≤ n → n ≤ 9 → (∀ n' r, 2 ≤ n' → n' < n → ¬ jSc h k n' r) → jDr h σ1 → (∀ g', g' < 50 ∨ 52 < g' → σ1 g' = σ g') → jxW Γ Θ (fun r' σ' => (∃ len, len ≤ 8 ∧ r' = some (.inl (nI len)) ∧ (jin x 4 = false → len = 0) ∧ ∀ k, k < 4 → x = nI k → (len = 0 → ∀ n r, 2 ≤ n → n ≤ 8 → ¬ jSc h k n r) ∧ (len ≠ 0 → ∃ row : Nat → Nat, (∀ i, i < len → σ' 51 0 i = nI (row i)) ∧ jmn (jSc h k) len row)) ∧ ∀ g', g' < 50 ∨ 52 < g' → σ' g' = σ g') 17 [some (.inr (40, 0)), some (.inl (nI k)), some (.inl (nI n))] [] σ1 := by
        intro N
        induction N with
        | zero => intro n σ1 hn; exact absurd hn (Nat.not_lt_zero _)
        | succ N ih =>
          intro n σ1 hn hn2 hn9 hno hd1 hf1
          refine j_iload_n X (q := 18) d_M_findCycle_17 rfl rfl ?_
          refine j_bipush X (v := (nI 9)) (q := 20) d_M_findCycle_18 (by decide +kernel) rfl ?_
          refine j_ncmp_ge X (tgt := 40) (q := 23) d_M_findCycle_20 (by decide) rfl (by omega) (by omega) (fun h20 => ?_) (fun h20 => ?_)
          · have _b20 := True.intro
            refine j_iconst X (v := (nI 0)) (q := 41) d_M_findCycle_40 (by decide +kernel) rfl ?_
            refine j_iret X d_M_findCycle_41 ?_
            refine ⟨⟨0, by omega, rfl, fun q => rfl, fun k' hk' e => ?_⟩, hf1⟩
            have ekk : k = k' := (nI_eq (by omega) (by omega)).mp (ek.symm.trans e)
            subst ekk
            exact ⟨fun _ n' r h1 h2 => hno n' r h1 (by omega), fun z => absurd rfl z⟩
          · have _b20 := True.intro
            refine j_aload_n X (q := 24) d_M_findCycle_23 rfl rfl ?_
            refine j_iload_n X (q := 25) d_M_findCycle_24 rfl rfl ?_
            refine j_iload_n X (q := 26) d_M_findCycle_25 rfl rfl ?_
            refine j_callV X (n := 2) (C := jR5) (T := jT5) (N := 18) d_M_findCycle_26 (c_M_tryRows hI hC hw hv (jMs_keep hm (jfm_50 hf1)) hd1 (k := k) (n := n) hk hn2 (by omega)) rfl rfl (hC _ _ (by decide)) wl599 wl600 wl26 wl42 wl601 (by decide +kernel) ⟨rfl, rfl⟩ (by decide) rfl rfl (Nat.le_of_ble_eq_true rfl) rfl (q := 29) rfl (fun r26 τ26 e26 => ?_)
            obtain ⟨⟨b, rfl, hb0, hb1⟩, hfr⟩ := e26
            have hf2 : ∀ g', g' < 50 ∨ 52 < g' → τ26 g' = σ g' := fun g hg => by rw [hfr g (by omega) (by omega), hf1 g hg]
            refine j_bif_eq X (tgt := 34) (q := 32) d_M_findCycle_29 (by decide) rfl (fun h29 => ?_) (fun h29 => ?_)
            · have _b29 := True.intro
              refine j_iinc X (q := 37) d_M_findCycle_34 rfl (j_inc1 _) rfl ?_
              refine j_goto X (tgt := 17) d_M_findCycle_37 (by decide) ?_
              exact ih (n + 1) _ (by omega) (by omega) (by omega) (fun n' r h1 h2 => if z : n' = n then by rw [z]; exact hb0 h29 r else hno n' r h1 (by omega)) (jDr_keep hd1 (hfr 50 (by decide) (by decide))) hf2
            · have _b29 := True.intro
              refine j_iload_n X (q := 33) d_M_findCycle_32 rfl rfl ?_
              refine j_iret X d_M_findCycle_33 ?_
              refine ⟨⟨n, by omega, rfl, fun q => (by rw [hin] at q; cases q), fun k' hk' e => ?_⟩, hf2⟩
              have ekk : k = k' := (nI_eq (by omega) (by omega)).mp (ek.symm.trans e)
              subst ekk
              obtain ⟨row, hr, hs, hl⟩ := hb1 h29
              exact ⟨fun z => by omega, fun _ => ⟨row, hr, by omega, by omega, hs, hno, hl⟩⟩
      refine j_aload_n X (q := 12) d_M_findCycle_11 rfl rfl ?_
      refine j_callV X (n := 0) (C := jR5) (T := jT5) (N := 18) d_M_findCycle_12 (c_M_draw hI hC hw hv hm) rfl rfl (hC _ _ (by decide)) wl596 wl597 wl25 wl42 wl598 (by decide +kernel) ⟨rfl, rfl⟩ (by decide) rfl rfl (Nat.le_of_ble_eq_true rfl) rfl (q := 15) rfl (fun r12 τ12 e12 => ?_)
      obtain ⟨rfl, hd, hf⟩ := e12
      refine j_iconst X (v := (nI 2)) (q := 16) d_M_findCycle_15 (by decide +kernel) rfl ?_
      refine j_istore_n X (j := 2) (q := 17) d_M_findCycle_16 rfl (Nat.le_of_ble_eq_true rfl) rfl ?_
      refine jxW.to (L' := [some (.inr (40, 0)), some (.inl (nI k)), some (.inl (nI 2))]) (by simp [jfg]; exact ek) ?_
      exact K 8 2 _ (by omega) (by omega) (by omega) (fun n' r h1 h2 => by omega) hd (fun g' hg => hf g' (by omega))
    · have _b6 := True.intro
      have hin : jin x 4 = false := jin_big (by omega) (Int32.le_iff_toInt_le.mpr (by
        have g1 : ¬ x.toInt ≤ (nI 3).toInt := fun z => h6 (Int32.le_iff_toInt_le.mpr z)
        have g3 : (nI 3).toInt = 3 := nI_toInt (by decide)
        have g4 : (nI 4).toInt = 4 := nI_toInt (by decide)
        omega))
      refine j_iconst X (v := (nI 0)) (q := 10) d_M_findCycle_9 (by decide +kernel) rfl ?_
      refine j_iret X d_M_findCycle_10 ?_
      exact ⟨⟨0, by omega, rfl, fun _ => rfl, fun k hk e => by subst e; rw [jin_nI (by omega), decide_eq_true hk] at hin; cases hin⟩, fun _ _ => rfl⟩
set_option maxRecDepth 100000 in
set_option maxHeartbeats 4000000 in
theorem c_M_cycle {l : Launch} {Θ : jxT} (hI : jxI Θ) (hC : ∀ g r, r < jrwM g → Θ.2.2.2 g r) {h : jH} {v : jV} {σ : jxM} (hw : jHw h) (hv : jVc h v) (hm : jMs h v σ) (x : Int32) : jxMet l y_M_cycle b_M_cycle 2 (some FieldType.int) (jrm 6) Θ [.inr (40, 0), .inl x] σ (fun r' σ' => (∃ len, len ≤ 8 ∧ r' = some (.inl (nI len)) ∧ (jin x 4 = false → len = 0) ∧ ∀ k, k < 4 → x = nI k → (len = 0 → ∀ n r, 2 ≤ n → n ≤ 8 → ¬ jSc h k n r) ∧ (len ≠ 0 → ∃ row : Nat → Nat, (∀ i, i < len → σ' 51 0 i = nI (row i)) ∧ jmn (jSc h k) len row)) ∧ jfm σ σ') := by
  refine jxMet.of (own := "HistoryJudgeModel") hI (by decide) rfl (Nat.le_of_ble_eq_true rfl) (fun Γ X => ?_)
  show jxW Γ Θ (fun r' σ' => (∃ len, len ≤ 8 ∧ r' = some (.inl (nI len)) ∧ (jin x 4 = false → len = 0) ∧ ∀ k, k < 4 → x = nI k → (len = 0 → ∀ n r, 2 ≤ n → n ≤ 8 → ¬ jSc h k n r) ∧ (len ≠ 0 → ∃ row : Nat → Nat, (∀ i, i < len → σ' 51 0 i = nI (row i)) ∧ jmn (jSc h k) len row)) ∧ jfm σ σ') 0 [some (.inr (40, 0)), some (.inl x)] [] σ
  refine j_aload_n X (q := 1) d_M_cycle_0 rfl rfl ?_
  refine j_iconst X (v := (nI 0)) (q := 2) d_M_cycle_1 (by decide +kernel) rfl ?_
  refine j_putI X (C := jR5) (T := jT5) (N := 18) (ci := 5) (j := 0) (q := 5) d_M_cycle_2 ju5 rfl rfl jt5 jt5_ok jn5 rfl (by decide) wl483 rfl (hC _ _ (by decide)) rfl rfl (ty := .int) rfl rfl rfl ?_
  refine j_aload_n X (q := 6) d_M_cycle_5 rfl rfl ?_
  refine j_iload_n X (q := 7) d_M_cycle_6 rfl rfl ?_
  refine j_callV X (n := 1) (C := jR5) (T := jT5) (N := 18) d_M_cycle_7 (c_M_findCycle hI hC hw hv (jMs_keep hm jfm_c) x) rfl rfl (hC _ _ (by decide)) wl593 wl594 wl24 wl42 wl595 (by decide +kernel) ⟨rfl, rfl⟩ (by decide) rfl rfl (Nat.le_of_ble_eq_true rfl) rfl (q := 10) rfl (fun r7 τ7 e7 => ?_)
  obtain ⟨⟨len, hl8, rfl, hl1, hc⟩, hfr⟩ := e7
  refine j_iret X d_M_cycle_10 ?_
  exact ⟨⟨len, hl8, rfl, hl1, hc⟩, jfm_tr jfm_c (jfm_50 hfr)⟩
set_option maxRecDepth 100000 in
set_option maxHeartbeats 4000000 in
theorem c_M_step {l : Launch} {Θ : jxT} (hI : jxI Θ) (hC : ∀ g r, r < jrwM g → Θ.2.2.2 g r) {h : jH} {v : jV} {σ : jxM} (hw : jHw h) (hv : jVc h v) (hm : jMs h v σ) (x i : Int32) : jxMet l y_M_step b_M_step 4 (some FieldType.int) (jrm 6) Θ [.inr (40, 0), .inl x, .inl i] σ (fun r' σ' => (∃ y, r' = some (.inl y) ∧ (jin x 4 = false → y = -1) ∧ ∀ k, k < 4 → x = nI k → ((∀ n r, 2 ≤ n → n ≤ 8 → ¬ jSc h k n r) → y = -1) ∧ ∀ len row, jmn (jSc h k) len row → (jin i len = false → y = -1) ∧ ∀ j, j < len → i = nI j → y = nI (row j)) ∧ jfm σ σ') := by
  refine jxMet.of (own := "HistoryJudgeModel") hI (by decide) rfl (Nat.le_of_ble_eq_true rfl) (fun Γ X => ?_)
  show jxW Γ Θ (fun r' σ' => (∃ y, r' = some (.inl y) ∧ (jin x 4 = false → y = -1) ∧ ∀ k, k < 4 → x = nI k → ((∀ n r, 2 ≤ n → n ≤ 8 → ¬ jSc h k n r) → y = -1) ∧ ∀ len row, jmn (jSc h k) len row → (jin i len = false → y = -1) ∧ ∀ j, j < len → i = nI j → y = nI (row j)) ∧ jfm σ σ') 0 [some (.inr (40, 0)), some (.inl x), some (.inl i), none] [] σ
  refine j_aload_n X (q := 1) d_M_step_0 rfl rfl ?_
  refine j_iconst X (v := (nI 0)) (q := 2) d_M_step_1 (by decide +kernel) rfl ?_
  refine j_putI X (C := jR5) (T := jT5) (N := 18) (ci := 5) (j := 0) (q := 5) d_M_step_2 ju5 rfl rfl jt5 jt5_ok jn5 rfl (by decide) wl483 rfl (hC _ _ (by decide)) rfl rfl (ty := .int) rfl rfl rfl ?_
  refine j_aload_n X (q := 6) d_M_step_5 rfl rfl ?_
  refine j_iload_n X (q := 7) d_M_step_6 rfl rfl ?_
  refine j_callV X (n := 1) (C := jR5) (T := jT5) (N := 18) d_M_step_7 (c_M_findCycle hI hC hw hv (jMs_keep hm jfm_c) x) rfl rfl (hC _ _ (by decide)) wl593 wl594 wl24 wl42 wl595 (by decide +kernel) ⟨rfl, rfl⟩ (by decide) rfl rfl (Nat.le_of_ble_eq_true rfl) rfl (q := 10) rfl (fun r7 τ7 e7 => ?_)
  obtain ⟨⟨len, hl8, rfl, hl1, hc⟩, hfr⟩ := e7
  refine j_istore_n X (j := 3) (q := 11) d_M_step_10 rfl (Nat.le_of_ble_eq_true rfl) rfl ?_
  refine j_iload_n X (q := 12) d_M_step_11 rfl rfl ?_
  refine j_if_lt X (tgt := 29) (q := 15) d_M_step_12 (by decide) rfl (fun h12 => ?_) (fun h12 => ?_)
  · have _b12 := True.intro
    have hin : jin i len = false := jin_neg h12
    refine j_iconst X (v := (-1)) (q := 30) d_M_step_29 (by decide +kernel) rfl ?_
    refine j_iret X d_M_step_30 ?_
    refine ⟨⟨-1, rfl, fun _ => rfl, fun k hk e => ⟨fun _ => rfl, fun len' row' hm => ⟨fun _ => rfl, fun j hj ej => ?_⟩⟩⟩, jfm_tr jfm_c (jfm_50 hfr)⟩
    obtain ⟨c0, c1⟩ := hc k hk e
    by_cases z : len = 0
    · exact absurd hm.2.2.1 (c0 z len' row' hm.1 hm.2.1)
    · obtain ⟨row, hr, hm2⟩ := c1 z
      have := (jmn_uniq hm2 hm).1
      subst this
      rw [ej, jin_nI (by omega), decide_eq_true hj] at hin
      cases hin
  · have _b12 := True.intro
    refine j_iload_n X (q := 16) d_M_step_15 rfl rfl ?_
    refine j_iload_n X (q := 17) d_M_step_16 rfl rfl ?_
    refine j_icmp_ge X (tgt := 29) (q := 20) d_M_step_17 (by decide) rfl (fun h17 => ?_) (fun h17 => ?_)
    · have _b17 := True.intro
      have hin : jin i len = false := jin_big (by omega) h17
      refine j_iconst X (v := (-1)) (q := 30) d_M_step_29 (by decide +kernel) rfl ?_
      refine j_iret X d_M_step_30 ?_
      refine ⟨⟨-1, rfl, fun _ => rfl, fun k hk e => ⟨fun _ => rfl, fun len' row' hm => ⟨fun _ => rfl, fun j hj ej => ?_⟩⟩⟩, jfm_tr jfm_c (jfm_50 hfr)⟩
      obtain ⟨c0, c1⟩ := hc k hk e
      by_cases z : len = 0
      · exact absurd hm.2.2.1 (c0 z len' row' hm.1 hm.2.1)
      · obtain ⟨row, hr, hm2⟩ := c1 z
        have := (jmn_uniq hm2 hm).1
        subst this
        rw [ej, jin_nI (by omega), decide_eq_true hj] at hin
        cases hin
    · have _b17 := True.intro
      have hin : jin i len = true := jin_yes (by omega) h12 h17
      obtain ⟨j, hj, ej⟩ := jin_of hin (by omega)
      refine j_aload_n X (q := 21) d_M_step_20 rfl rfl ?_
      refine j_getR X (C := jR5) (T := jT5) (N := 18) (ci := 5) (j := 14) (q := 24) d_M_step_21 ju5 rfl rfl rfl (by decide) wl497 rfl (hC _ _ (by decide)) rfl ?_
      refine j_iload_n X (q := 25) d_M_step_24 rfl rfl ?_
      refine j_iald X (j := j) (q := 26) d_M_step_25 rfl (by decide) ej (by omega) (hC _ _ (by decide)) rfl rfl ?_
      refine j_goto X (tgt := 30) d_M_step_26 (by decide) ?_
      refine j_iret X d_M_step_30 ?_
      refine ⟨⟨_, rfl, fun q => ?_, fun k hk e => ⟨fun hno => ?_, fun len' row' hm => ⟨fun hno => ?_, fun j' hj' ej' => ?_⟩⟩⟩, jfm_tr jfm_c (jfm_50 hfr)⟩
      · have := hl1 q; omega
      · obtain ⟨c0, c1⟩ := hc k hk e
        obtain ⟨row, hr, hm2⟩ := c1 (by omega)
        exact absurd hm2.2.2.1 (hno len row hm2.1 hm2.2.1)
      · obtain ⟨c0, c1⟩ := hc k hk e
        obtain ⟨row, hr, hm2⟩ := c1 (by omega)
        have := (jmn_uniq hm2 hm).1
        subst this
        rw [hin] at hno; cases hno
      · obtain ⟨c0, c1⟩ := hc k hk e
        obtain ⟨row, hr, hm2⟩ := c1 (by omega)
        obtain ⟨e1, e2⟩ := jmn_uniq hm2 hm
        have ejj : j = j' := (nI_eq (by omega) (by omega)).mp (ej.symm.trans ej')
        subst ejj
        rw [hr j hj, e2 j hj]
