/-! The class's own face: places, states, versions, exchanges, serial orders. -/
noncomputable def jnS (C : Nat → Bool) (bf : Nat → Nat → Prop) (rb : Nat → Nat → Nat → Prop) (sd : Bool) (m t : Nat) : Bool := (sd && jd (∀ i, i < 8 → jtb m i = true → C i = true)) && jd (jnf C (jmfc bf rb) (jtb m) t)
theorem jnxt_bI {C : Nat → Bool} {bf : Nat → Nat → Prop} {rb : Nat → Nat → Nat → Prop} {sd : Bool} {m : Nat} : jnxt C bf rb sd m = bI (jnS C bf rb sd m) := by
  unfold jnxt
  by_cases e : (sd && jd (∀ i, i < 8 → jtb m i = true → C i = true)) = true
  · rw [if_pos e]; exact bI_ext (fun t _ => by unfold jnS; rw [e]; rfl)
  · rw [if_neg e, bI_n0]; exact bI_ext (fun t _ => by unfold jnS; rw [Bool.eq_false_iff.mpr e]; rfl)
theorem jbc_all : ∀ m, m < 256 → jbc (nI m) = nI ((List.range 8).filter (fun i => m.testBit i)).length := by decide +kernel
theorem jbc_bI (C : Nat → Bool) : jbc (bI C) = nI (jct C) := by
  show jbc (nI (jbN C 8)) = _
  rw [jbc_all _ (jbN_256 C)]
  unfold jct
  congr 2
  apply List.filter_congr
  intro i hi
  have := List.mem_range.mp hi
  rw [jbN_test]; simp [this]
theorem jct_8 (C : Nat → Bool) : jct C ≤ 8 := by
  unfold jct
  exact Nat.le_trans (List.length_filter_le _ _) (by simp)
/-- the least order's beginning: what the set D of those done is -/
def jlo (C : Nat → Bool) (mf : Nat → (Nat → Bool) → Prop) (n : Nat) (ρ : Nat → Nat) : Prop := jor C mf n ρ ∧ ∀ ρ', jor C mf n ρ' → jlx n ρ ρ'
theorem jlo_next {C : Nat → Bool} {bf : Nat → Nat → Prop} {rb : Nat → Nat → Nat → Prop} {n i q : Nat} {ρ : Nat → Nat} {D : Nat → Bool} (hl : jlo C (jmfc bf rb) n ρ) (hi : i < n) (hD : ∀ u, u < 8 → D u = jst ρ i u) (hq8 : q < 8) (hq : (∃ t, t < 8 ∧ jnS C bf rb true (jbN D 8) t = true) → jnS C bf rb true (jbN D 8) q = true ∧ ∀ u, u < q → jnS C bf rb true (jbN D 8) u = false) : q = ρ i := by
  have eD : jtb (jbN D 8) = jst ρ i := by
    rw [jtb_bN]
    funext u
    by_cases h : u < 8
    · simp [h, hD u h]
    · cases e : jst ρ i u with
      | false => simp [h]
      | true =>
        obtain ⟨j, hj, ej⟩ := jst_iff.mp e
        have := (hl.1.1.1 j (by omega)).1
        omega
  have hsub : ∀ u, u < 8 → jst ρ i u = true → C u = true := by
    intro u _ e
    obtain ⟨j, hj, ej⟩ := jst_iff.mp e
    rw [← ej]; exact (hl.1.1.1 j (by omega)).2
  have hS : ∀ t, jnS C bf rb true (jbN D 8) t = jd (jnf C (jmfc bf rb) (jst ρ i) t) := by
    intro t
    unfold jnS
    rw [eD, jd_iff.mpr hsub]; rfl
  obtain ⟨l1, l2⟩ := jor_least hl.1 hl.2 hi
  obtain ⟨q1, q2⟩ := hq ⟨ρ i, l1.1, by rw [hS]; exact jd_iff.mpr l1⟩
  rw [hS, jd_iff] at q1
  have h1 := l2 q q1
  refine Nat.le_antisymm (Nat.le_of_not_lt (fun z => ?_)) h1
  have := q2 (ρ i) z
  rw [hS, jd_iff.mpr l1] at this
  cases this
set_option maxRecDepth 100000 in
set_option maxHeartbeats 4000000 in
theorem c_S_transactionAt {l : Launch} {Θ : jxT} (hI : jxI Θ) (hC : ∀ g r, r < jrwJ g → Θ.2.2.2 g r) {σ : jxM} {C : Nat → Bool} {bf : Nat → Nat → Prop} {rb : Nat → Nat → Nat → Prop} {sd : Bool} (hz : jZs C bf rb sd σ) (hx : ∀ m, m < 256 → σ 34 0 m = jnxt C bf rb sd m) (x : Int32) : jxMet l y_S_transactionAt b_S_transactionAt 4 (some FieldType.int) (jrm 4) Θ [.inr (30, 0), .inl x] σ (fun r' σ' => σ = σ' ∧ ∃ v, r' = some (.inl v) ∧ ((sd && jd (jce C (jmfc bf rb) (fun _ => false))) = false ∨ jin x (jct C) = false → v = -1) ∧ ((sd && jd (jce C (jmfc bf rb) (fun _ => false))) = true → ∀ k, k < jct C → x = nI k → ∃ q, q < 8 ∧ v = nI q ∧ ∀ n ρ, jlo C (jmfc bf rb) n ρ → q = ρ k)) := by
  refine jxMet.of (own := "HistoryJudge$SerialSearch") hI (by decide) rfl (Nat.le_of_ble_eq_true rfl) (fun Γ X => ?_)
  show jxW Γ Θ (fun r' σ' => σ = σ' ∧ ∃ v, r' = some (.inl v) ∧ ((sd && jd (jce C (jmfc bf rb) (fun _ => false))) = false ∨ jin x (jct C) = false → v = -1) ∧ ((sd && jd (jce C (jmfc bf rb) (fun _ => false))) = true → ∀ k, k < jct C → x = nI k → ∃ q, q < 8 ∧ v = nI q ∧ ∀ n ρ, jlo C (jmfc bf rb) n ρ → q = ρ k)) 0 [some (.inr (30, 0)), some (.inl x), none, none] [] σ
  have b8 := jct_8 C
  refine j_aload_n X (q := 1) d_S_transactionAt_0 rfl rfl ?_
  refine j_callV X (n := 0) (C := jR3) (T := jT3) (N := 5) d_S_transactionAt_1 (c_S_isPossible hI hC hz hx) rfl rfl (hC _ _ (by decide)) wl337 wl326 wl327 wl41 wl328 (by decide +kernel) ⟨rfl, rfl⟩ (by decide) rfl rfl (Nat.le_of_ble_eq_true rfl) rfl (q := 4) rfl (fun r1 τ1 e1 => ?_)
  obtain ⟨rfl, rfl⟩ := e1
  refine j_bif_eq X (tgt := 22) (q := 7) d_S_transactionAt_4 (by decide) rfl (fun h4 => ?_) (fun h4 => ?_)
  · have _b4 := True.intro
    refine j_iconst X (v := (-1)) (q := 23) d_S_transactionAt_22 (by decide +kernel) rfl ?_
    refine j_iret X d_S_transactionAt_23 ?_
    exact ⟨rfl, -1, rfl, fun _ => rfl, fun q => by rw [h4] at q; cases q⟩
  · have _b4 := True.intro
    refine j_iload_n X (q := 8) d_S_transactionAt_7 rfl rfl ?_
    refine j_if_lt X (tgt := 22) (q := 11) d_S_transactionAt_8 (by decide) rfl (fun h8 => ?_) (fun h8 => ?_)
    · have _b8 := True.intro
      have hin : jin x (jct C) = false := jin_neg h8
      refine j_iconst X (v := (-1)) (q := 23) d_S_transactionAt_22 (by decide +kernel) rfl ?_
      refine j_iret X d_S_transactionAt_23 ?_
      exact ⟨rfl, -1, rfl, fun _ => rfl, fun _ k hk e => by subst e; rw [jin_nI (by omega), decide_eq_true hk] at hin; cases hin⟩
    · have _b8 := True.intro
      refine j_iload_n X (q := 12) d_S_transactionAt_11 rfl rfl ?_
      refine j_aload_n X (q := 13) d_S_transactionAt_12 rfl rfl ?_
      refine j_getI X (C := jR3) (T := jT3) (N := 5) (ci := 3) (j := 3) (q := 16) d_S_transactionAt_13 ju3 rfl rfl rfl (by decide) wl159 rfl (hC _ _ (by decide)) rfl hz.1 ?_
      refine j_callS X (n := 1) d_S_transactionAt_16 (c_I_bitCount hI (bI C) σ) wl338 wl339 wl50 wl340 (by decide +kernel) ⟨rfl, rfl⟩ (by decide) rfl rfl (Nat.le_of_ble_eq_true rfl) rfl (q := 19) rfl (fun r16 τ16 e16 => ?_)
      obtain ⟨rfl, rfl⟩ := e16
      rw [jbc_bI]
      refine j_icmp_lt X (tgt := 24) (q := 22) d_S_transactionAt_19 (by decide) rfl (fun h19 => ?_) (fun h19 => ?_)
      · have _b19 := True.intro
        have hin : jin x (jct C) = true := jin_yes (by omega) h8 (fun z => by
          have h1 := Int32.lt_iff_toInt_lt.mp h19
          have h2 := Int32.le_iff_toInt_le.mp z
          omega)
        obtain ⟨k, hk, ek⟩ := jin_of hin (by omega)
        have K : ∀ (N : Nat) (i : Nat) (D : Nat → Bool), 8 - i < N → i ≤ k → (∀ n ρ, jlo C (jmfc bf rb) n ρ → ∀ u, u < 8 → D u = jst ρ i u) → jxW Γ Θ (fun r' σ' => σ = σ' ∧ ∃ v, r' = some (.inl v) ∧ ((sd && jd (jce C (jmfc bf rb) (fun _ => false))) = false ∨ jin x (jct C) = false → v = -1) ∧ ((sd && jd (jce C (jmfc bf rb) (fun _ => false))) = true → ∀ k, k < jct C → x = nI k → ∃ q, q < 8 ∧ v = nI q ∧ ∀ n ρ, jlo C (jmfc bf rb) n ρ → q = ρ k)) 28 [some (.inr (30, 0)), some (.inl (nI k)), some (.inl (bI D)), some (.inl (nI i))] [] σ := by
          intro N
          induction N with
          | zero => intro i D hn; exact absurd hn (Nat.not_lt_zero _)
          | succ N ih =>
            intro i D hn hi hD
            refine j_iload_n X (q := 29) d_S_transactionAt_28 rfl rfl ?_
            refine j_iload_n X (q := 30) d_S_transactionAt_29 rfl rfl ?_
            refine j_ncmp_ge X (tgt := 54) (q := 33) d_S_transactionAt_30 (by decide) rfl (by omega) (by omega) (fun h30 => ?_) (fun h30 => ?_)
            · have _b30 := True.intro
              refine j_aload_n X (q := 55) d_S_transactionAt_54 rfl rfl ?_
              refine j_getR X (C := jR3) (T := jT3) (N := 5) (ci := 3) (j := 2) (q := 58) d_S_transactionAt_55 ju3 rfl rfl rfl (by decide) wl157 rfl (hC _ _ (by decide)) rfl ?_
              refine j_iload_n X (q := 59) d_S_transactionAt_58 rfl rfl ?_
              refine j_iald X (j := jbN D 8) (q := 60) d_S_transactionAt_59 rfl (by decide) rfl (jbN_256 D) (hC _ _ (by decide)) rfl (show _ = bI (jnS C bf rb sd (jbN D 8)) by rw [hx _ (jbN_256 _), jnxt_bI]) ?_
              refine j_callSN X (n := 1) d_S_transactionAt_60 (c_J_least hI (jnS C bf rb sd (jbN D 8)) σ) wl251 nl10 wl36 wl250 (by decide +kernel) ⟨rfl, rfl⟩ (by decide) rfl rfl (Nat.le_of_ble_eq_true rfl) rfl (q := 63) rfl (fun r60 τ60 e60 => ?_)
              obtain ⟨q, hq8, rfl, rfl, hq⟩ := e60
              refine j_iret X d_S_transactionAt_63 ?_
              have hik : i = k := by omega
              subst hik
              refine ⟨rfl, nI q, rfl, fun z => ?_, fun _ k' hk' e => ?_⟩
              · rcases z with z | z
                · rw [h4] at z; cases z
                · rw [hin] at z; cases z
              · have ek' : i = k' := (nI_eq (by omega) (by omega)).mp (ek.symm.trans e)
                subst ek'
                have hsd : sd = true := by rw [Bool.and_eq_true] at h4; exact h4.1
                subst hsd
                refine ⟨q, hq8, rfl, fun n ρ hl => ?_⟩
                have hn := jpm_len hl.1.1
                exact jlo_next hl (by omega) (hD n ρ hl) hq8 hq
            · have _b30 := True.intro
              refine j_iload_n X (q := 34) d_S_transactionAt_33 rfl rfl ?_
              refine j_aload_n X (q := 35) d_S_transactionAt_34 rfl rfl ?_
              refine j_getR X (C := jR3) (T := jT3) (N := 5) (ci := 3) (j := 2) (q := 38) d_S_transactionAt_35 ju3 rfl rfl rfl (by decide) wl157 rfl (hC _ _ (by decide)) rfl ?_
              refine j_iload_n X (q := 39) d_S_transactionAt_38 rfl rfl ?_
              refine j_iald X (j := jbN D 8) (q := 40) d_S_transactionAt_39 rfl (by decide) rfl (jbN_256 D) (hC _ _ (by decide)) rfl (show _ = bI (jnS C bf rb sd (jbN D 8)) by rw [hx _ (jbN_256 _), jnxt_bI]) ?_
              refine j_callSN X (n := 1) d_S_transactionAt_40 (c_J_least hI (jnS C bf rb sd (jbN D 8)) σ) wl251 nl10 wl36 wl250 (by decide +kernel) ⟨rfl, rfl⟩ (by decide) rfl rfl (Nat.le_of_ble_eq_true rfl) rfl (q := 43) rfl (fun r40 τ40 e40 => ?_)
              obtain ⟨q, hq8, rfl, rfl, hq⟩ := e40
              refine j_callSN X (n := 1) d_S_transactionAt_43 (c_J_only hI hq8 σ) wl208 nl9 wl36 wl207 (by decide +kernel) ⟨rfl, rfl⟩ (by decide) rfl rfl (Nat.le_of_ble_eq_true rfl) rfl (q := 46) rfl (fun r43 τ43 e43 => ?_)
              obtain ⟨rfl, rfl⟩ := e43
              refine j_ior X (q := 47) d_S_transactionAt_46 rfl ?_
              refine j_istore_n X (j := 2) (q := 48) d_S_transactionAt_47 rfl (Nat.le_of_ble_eq_true rfl) rfl ?_
              refine j_iinc X (q := 51) d_S_transactionAt_48 rfl (j_inc1 _) rfl ?_
              refine j_goto X (tgt := 28) d_S_transactionAt_51 (by decide) ?_
              rw [bI_or]
              refine jxW.to (L' := [some (.inr (30, 0)), some (.inl (nI k)), some (.inl (bI (jad D q))), some (.inl (nI (i + 1)))]) (by simp [jfg]; rfl) ?_
              refine ih (i + 1) (jad D q) (by omega) (by omega) (fun n ρ hl u hu => ?_)
              have hsd : sd = true := by rw [Bool.and_eq_true] at h4; exact h4.1
              subst hsd
              have hn := jpm_len hl.1.1
              have eq := jlo_next hl (by omega) (hD n ρ hl) hq8 hq
              rw [jst_ad, ← eq]
              unfold jad
              rw [hD n ρ hl u hu]
        refine j_iconst X (v := (nI 0)) (q := 25) d_S_transactionAt_24 (by decide +kernel) rfl ?_
        refine j_istore_n X (j := 2) (q := 26) d_S_transactionAt_25 rfl (Nat.le_of_ble_eq_true rfl) rfl ?_
        refine j_iconst X (v := (nI 0)) (q := 27) d_S_transactionAt_26 (by decide +kernel) rfl ?_
        refine j_istore_n X (j := 3) (q := 28) d_S_transactionAt_27 rfl (Nat.le_of_ble_eq_true rfl) rfl ?_
        refine jxW.to (L' := [some (.inr (30, 0)), some (.inl (nI k)), some (.inl (bI (fun _ => false))), some (.inl (nI 0))]) (by simp [jfg, bI_n0, ek]) ?_
        exact K 9 0 (fun _ => false) (by omega) (by omega) (fun n ρ _ u _ => rfl)
      · have _b19 := True.intro
        have hin : jin x (jct C) = false := jin_big (by omega) (Int32.le_iff_toInt_le.mpr (by
          have : ¬ x.toInt < (nI (jct C)).toInt := fun z => h19 (Int32.lt_iff_toInt_lt.mpr z)
          omega))
        refine j_iconst X (v := (-1)) (q := 23) d_S_transactionAt_22 (by decide +kernel) rfl ?_
        refine j_iret X d_S_transactionAt_23 ?_
        exact ⟨rfl, -1, rfl, fun _ => rfl, fun _ k hk e => by subst e; rw [jin_nI (by omega), decide_eq_true hk] at hin; cases hin⟩
set_option maxRecDepth 100000 in
set_option maxHeartbeats 4000000 in
theorem c_J_state {l : Launch} {Θ : jxT} (hI : jxI Θ) (hC : ∀ g r, r < jrwJ g → Θ.2.2.2 g r) {h : jH} {σ : jxM} (hw : jHw h) (hs : jHs h σ) (x : Int32) : jxMet l y_J_state b_J_state 2 (some FieldType.int) (jrm 2) Θ [.inr (0, 0), .inl x] σ (jan (if jin x 8 = true then nI (hyS h x.toNatClampNeg) else -1) σ) := by
  refine jxMet.of (own := "HistoryJudge") hI (by decide) rfl (Nat.le_of_ble_eq_true rfl) (fun Γ X => ?_)
  show jxW Γ Θ (jan (if jin x 8 = true then nI (hyS h x.toNatClampNeg) else -1) σ) 0 [some (.inr (0, 0)), some (.inl x)] [] σ
  refine j_iload_n X (q := 1) d_J_state_0 rfl rfl ?_
  refine j_callS X (n := 1) d_J_state_1 (c_J_isTransaction hI x σ) wl178 wl179 wl36 wl180 (by decide +kernel) ⟨rfl, rfl⟩ (by decide) rfl rfl (Nat.le_of_ble_eq_true rfl) rfl (q := 4) rfl (fun r1 τ1 e1 => ?_)
  obtain ⟨rfl, rfl⟩ := e1
  refine j_bif_eq X (tgt := 19) (q := 7) d_J_state_4 (by decide) rfl (fun h4 => ?_) (fun h4 => ?_)
  · have _b4 := True.intro
    refine j_iconst X (v := (-1)) (q := 20) d_J_state_19 (by decide +kernel) rfl ?_
    refine j_iret X d_J_state_20 ?_
    exact ⟨by rw [if_neg (by rw [h4]; exact Bool.false_ne_true)], rfl⟩
  · have _b4 := True.intro
    obtain ⟨k, hk, rfl⟩ := jin_of h4 (by decide)
    refine j_aload_n X (q := 8) d_J_state_7 rfl rfl ?_
    refine j_getR X (C := jR4) (T := jT4) (N := 4) (ci := 4) (j := 0) (q := 11) d_J_state_8 ju4 rfl rfl rfl (by decide) wl166 rfl (hC _ _ (by decide)) rfl ?_
    refine j_getR X (C := jR2) (T := jT2) (N := 12) (ci := 2) (j := 0) (q := 14) d_J_state_11 ju2 rfl rfl rfl (by decide) wl74 rfl (hC _ _ (by decide)) rfl ?_
    refine j_iload_n X (q := 15) d_J_state_14 rfl rfl ?_
    refine j_iald X (q := 16) d_J_state_15 rfl (by decide) rfl hk (hC _ _ (by decide)) rfl (jHs_S hs hk) ?_
    refine j_goto X (tgt := 20) d_J_state_16 (by decide) ?_
    refine j_iret X d_J_state_20 ?_
    exact ⟨by rw [if_pos h4, nI_clamp (by omega)], rfl⟩
set_option maxRecDepth 100000 in
set_option maxHeartbeats 4000000 in
theorem c_J_version {l : Launch} {Θ : jxT} (hI : jxI Θ) (hC : ∀ g r, r < jrwJ g → Θ.2.2.2 g r) {h : jH} {σ : jxM} (hw : jHw h) (hs : jHs h σ) (x i : Int32) : jxMet l y_J_version b_J_version 3 (some FieldType.int) (jrm 2) Θ [.inr (0, 0), .inl x, .inl i] σ (jan (if jin x 6 = true ∧ jin i (hyon h x.toNatClampNeg) = true then nI (hyod h x.toNatClampNeg i.toNatClampNeg) else -1) σ) := by
  refine jxMet.of (own := "HistoryJudge") hI (by decide) rfl (Nat.le_of_ble_eq_true rfl) (fun Γ X => ?_)
  show jxW Γ Θ (jan (if jin x 6 = true ∧ jin i (hyon h x.toNatClampNeg) = true then nI (hyod h x.toNatClampNeg i.toNatClampNeg) else -1) σ) 0 [some (.inr (0, 0)), some (.inl x), some (.inl i)] [] σ
  refine j_iload_n X (q := 1) d_J_version_0 rfl rfl ?_
  refine j_callS X (n := 1) d_J_version_1 (c_J_isItem hI x σ) wl185 wl186 wl36 wl187 (by decide +kernel) ⟨rfl, rfl⟩ (by decide) rfl rfl (Nat.le_of_ble_eq_true rfl) rfl (q := 4) rfl (fun r1 τ1 e1 => ?_)
  obtain ⟨rfl, rfl⟩ := e1
  refine j_bif_eq X (tgt := 24) (q := 7) d_J_version_4 (by decide) rfl (fun h4 => ?_) (fun h4 => ?_)
  · have _b4 := True.intro
    refine j_iconst X (v := (-1)) (q := 25) d_J_version_24 (by decide +kernel) rfl ?_
    refine j_iret X d_J_version_25 ?_
    exact ⟨by rw [if_neg (fun q => by rw [h4] at q; cases q.1)], rfl⟩
  · have _b4 := True.intro
    obtain ⟨k, hk, rfl⟩ := jin_of h4 (by decide)
    have ck : (nI k).toNatClampNeg = k := nI_clamp (by omega)
    have bO := jHw_on hw hk
    refine j_iload_n X (q := 8) d_J_version_7 rfl rfl ?_
    refine j_if_lt X (tgt := 24) (q := 11) d_J_version_8 (by decide) rfl (fun h8 => ?_) (fun h8 => ?_)
    · have _b8 := True.intro
      have hb : ¬ (jin (nI k) 6 = true ∧ jin i (hyon h (nI k).toNatClampNeg) = true) := fun q => by rw [jin_neg h8] at q; cases q.2
      refine j_iconst X (v := (-1)) (q := 25) d_J_version_24 (by decide +kernel) rfl ?_
      refine j_iret X d_J_version_25 ?_
      exact ⟨by rw [if_neg hb], rfl⟩
    · have _b8 := True.intro
      refine j_iload_n X (q := 12) d_J_version_11 rfl rfl ?_
      refine j_aload_n X (q := 13) d_J_version_12 rfl rfl ?_
      refine j_getR X (C := jR4) (T := jT4) (N := 4) (ci := 4) (j := 0) (q := 16) d_J_version_13 ju4 rfl rfl rfl (by decide) wl166 rfl (hC _ _ (by decide)) rfl ?_
      refine j_getR X (C := jR2) (T := jT2) (N := 12) (ci := 2) (j := 11) (q := 19) d_J_version_16 ju2 rfl rfl rfl (by decide) wl102 rfl (hC _ _ (by decide)) rfl ?_
      refine j_iload_n X (q := 20) d_J_version_19 rfl rfl ?_
      refine j_iald X (q := 21) d_J_version_20 rfl (by decide) rfl hk (hC _ _ (by decide)) rfl (jHs_on hs hk) ?_
      refine j_icmp_lt X (tgt := 26) (q := 24) d_J_version_21 (by decide) rfl (fun h21 => ?_) (fun h21 => ?_)
      · have _b21 := True.intro
        have hin : jin i (hyon h k) = true := jin_yes (by omega) h8 (fun z => by
          have h1 := Int32.lt_iff_toInt_lt.mp h21
          have h2 := Int32.le_iff_toInt_le.mp z
          omega)
        obtain ⟨j, hj, rfl⟩ := jin_of hin (by omega)
        refine j_aload_n X (q := 27) d_J_version_26 rfl rfl ?_
        refine j_getR X (C := jR4) (T := jT4) (N := 4) (ci := 4) (j := 0) (q := 30) d_J_version_27 ju4 rfl rfl rfl (by decide) wl166 rfl (hC _ _ (by decide)) rfl ?_
        refine j_getR X (C := jR2) (T := jT2) (N := 12) (ci := 2) (j := 10) (q := 33) d_J_version_30 ju2 rfl rfl rfl (by decide) wl99 rfl (hC _ _ (by decide)) rfl ?_
        refine j_iload_n X (q := 34) d_J_version_33 rfl rfl ?_
        refine j_aald X (q := 35) d_J_version_34 rfl (by decide) rfl hk (hC _ _ (by decide)) rfl ?_
        refine j_iload_n X (q := 36) d_J_version_35 rfl rfl ?_
        refine j_iald X (q := 37) d_J_version_36 rfl (by decide) rfl (by omega) (hC _ _ (by show _ < 6; omega)) rfl (jHs_od hs hk hj) ?_
        refine j_iret X d_J_version_37 ?_
        exact ⟨by rw [if_pos ⟨h4, by rw [ck]; exact hin⟩, ck, nI_clamp (show j < 2 ^ 31 by omega)], rfl⟩
      · have _b21 := True.intro
        have hb : ¬ (jin (nI k) 6 = true ∧ jin i (hyon h (nI k).toNatClampNeg) = true) := fun q => by
          rw [ck, jin_big (x := i) (n := hyon h k) (by omega) (Int32.le_iff_toInt_le.mpr (by
            have : ¬ i.toInt < (nI (hyon h k)).toInt := fun z => h21 (Int32.lt_iff_toInt_lt.mpr z)
            omega))] at q
          cases q.2
        refine j_iconst X (v := (-1)) (q := 25) d_J_version_24 (by decide +kernel) rfl ?_
        refine j_iret X d_J_version_25 ?_
        exact ⟨by rw [if_neg hb], rfl⟩
set_option maxRecDepth 100000 in
set_option maxHeartbeats 4000000 in
theorem c_J_exchange {l : Launch} {Θ : jxT} (hI : jxI Θ) (hC : ∀ g r, r < jrwJ g → Θ.2.2.2 g r) {h : jH} {σ : jxM} (hw : jHw h) (hs : jHs h σ) (x i : Int32) : jxMet l y_J_exchange b_J_exchange 5 (some FieldType.boolean) (jrm 2) Θ [.inr (0, 0), .inl x, .inl i] σ (fun r' σ' => (∃ b : Bool, r' = some (.inl (jB b)) ∧ (b = true ↔ jin x 6 = true ∧ jin i (hyon h x.toNatClampNeg - 1) = true) ∧ (b = false → σ = σ') ∧ (b = true → jHs (jexc h x.toNatClampNeg i.toNatClampNeg) σ')) ∧ ∀ g, 14 ≤ g → σ' g = σ g) := by
  refine jxMet.of (own := "HistoryJudge") hI (by decide) rfl (Nat.le_of_ble_eq_true rfl) (fun Γ X => ?_)
  show jxW Γ Θ (fun r' σ' => (∃ b : Bool, r' = some (.inl (jB b)) ∧ (b = true ↔ jin x 6 = true ∧ jin i (hyon h x.toNatClampNeg - 1) = true) ∧ (b = false → σ = σ') ∧ (b = true → jHs (jexc h x.toNatClampNeg i.toNatClampNeg) σ')) ∧ ∀ g, 14 ≤ g → σ' g = σ g) 0 [some (.inr (0, 0)), some (.inl x), some (.inl i), none, none] [] σ
  refine j_iload_n X (q := 1) d_J_exchange_0 rfl rfl ?_
  refine j_callS X (n := 1) d_J_exchange_1 (c_J_isItem hI x σ) wl185 wl186 wl36 wl187 (by decide +kernel) ⟨rfl, rfl⟩ (by decide) rfl rfl (Nat.le_of_ble_eq_true rfl) rfl (q := 4) rfl (fun r1 τ1 e1 => ?_)
  obtain ⟨rfl, rfl⟩ := e1
  refine j_bif_eq X (tgt := 26) (q := 7) d_J_exchange_4 (by decide) rfl (fun h4 => ?_) (fun h4 => ?_)
  · have _b4 := True.intro
    have hb : ¬ (jin x 6 = true ∧ jin i (hyon h x.toNatClampNeg - 1) = true) := fun q => by rw [h4] at q; cases q.1
    refine j_iconst X (v := (nI 0)) (q := 27) d_J_exchange_26 (by decide +kernel) rfl ?_
    refine j_zret X d_J_exchange_27 (by decide +kernel) ?_
    exact ⟨⟨false, rfl, ⟨fun q => (by cases q), fun q => absurd q hb⟩, fun _ => rfl, fun q => (by cases q)⟩, fun _ _ => rfl⟩
  · have _b4 := True.intro
    obtain ⟨k, hk, rfl⟩ := jin_of h4 (by decide)
    have ck : (nI k).toNatClampNeg = k := nI_clamp (by omega)
    have bO := jHw_on hw hk
    refine j_iload_n X (q := 8) d_J_exchange_7 rfl rfl ?_
    refine j_if_lt X (tgt := 26) (q := 11) d_J_exchange_8 (by decide) rfl (fun h8 => ?_) (fun h8 => ?_)
    · have _b8 := True.intro
      have hb : ¬ (jin (nI k) 6 = true ∧ jin i (hyon h (nI k).toNatClampNeg - 1) = true) := fun q => by rw [jin_neg h8] at q; cases q.2
      refine j_iconst X (v := (nI 0)) (q := 27) d_J_exchange_26 (by decide +kernel) rfl ?_
      refine j_zret X d_J_exchange_27 (by decide +kernel) ?_
      exact ⟨⟨false, rfl, ⟨fun q => (by cases q), fun q => absurd q hb⟩, fun _ => rfl, fun q => (by cases q)⟩, fun _ _ => rfl⟩
    · have _b8 := True.intro
      refine j_iload_n X (q := 12) d_J_exchange_11 rfl rfl ?_
      refine j_aload_n X (q := 13) d_J_exchange_12 rfl rfl ?_
      refine j_getR X (C := jR4) (T := jT4) (N := 4) (ci := 4) (j := 0) (q := 16) d_J_exchange_13 ju4 rfl rfl rfl (by decide) wl166 rfl (hC _ _ (by decide)) rfl ?_
      refine j_getR X (C := jR2) (T := jT2) (N := 12) (ci := 2) (j := 11) (q := 19) d_J_exchange_16 ju2 rfl rfl rfl (by decide) wl102 rfl (hC _ _ (by decide)) rfl ?_
      refine j_iload_n X (q := 20) d_J_exchange_19 rfl rfl ?_
      refine j_iald X (q := 21) d_J_exchange_20 rfl (by decide) rfl hk (hC _ _ (by decide)) rfl (jHs_on hs hk) ?_
      refine j_iconst X (v := (nI 1)) (q := 22) d_J_exchange_21 (by decide +kernel) rfl ?_
      refine j_isub X (q := 23) d_J_exchange_22 rfl ?_
      refine j_icmp_lt X (tgt := 28) (q := 26) d_J_exchange_23 (by decide) rfl (fun h23 => ?_) (fun h23 => ?_)
      · have _b23 := True.intro
        have hin : jin i (hyon h k - 1) = true ∧ 1 ≤ hyon h k := by
          have h1 := Int32.lt_iff_toInt_lt.mp h23
          rw [show nI (hyon h k) - nI 1 = nI (hyon h k) - nI 1 from rfl, pk_sub_toInt (by omega) (by omega)] at h1
          have h0 : ¬ i.toInt < (0 : Int32).toInt := fun q => h8 (Int32.lt_iff_toInt_lt.mpr q)
          have e0 : (0 : Int32).toInt = 0 := by decide +kernel
          rw [e0] at h0
          unfold jin
          rw [decide_eq_true_eq]
          omega
        obtain ⟨j, hj, rfl⟩ := jin_of hin.1 (by omega)
        have cj : (nI j).toNatClampNeg = j := nI_clamp (by omega)
        refine j_aload_n X (q := 29) d_J_exchange_28 rfl rfl ?_
        refine j_getR X (C := jR4) (T := jT4) (N := 4) (ci := 4) (j := 0) (q := 32) d_J_exchange_29 ju4 rfl rfl rfl (by decide) wl166 rfl (hC _ _ (by decide)) rfl ?_
        refine j_getR X (C := jR2) (T := jT2) (N := 12) (ci := 2) (j := 10) (q := 35) d_J_exchange_32 ju2 rfl rfl rfl (by decide) wl99 rfl (hC _ _ (by decide)) rfl ?_
        refine j_iload_n X (q := 36) d_J_exchange_35 rfl rfl ?_
        refine j_aald X (q := 37) d_J_exchange_36 rfl (by decide) rfl hk (hC _ _ (by decide)) rfl ?_
        refine j_astore_n X (j := 3) (q := 38) d_J_exchange_37 rfl (Nat.le_of_ble_eq_true rfl) rfl ?_
        refine j_aload_n X (q := 39) d_J_exchange_38 rfl rfl ?_
        refine j_iload_n X (q := 40) d_J_exchange_39 rfl rfl ?_
        refine j_iald X (q := 41) d_J_exchange_40 rfl (by decide) rfl (by omega) (hC _ _ (by show _ < 6; omega)) rfl (jHs_od hs hk (by omega)) ?_
        refine j_istore X (q := 43) d_J_exchange_41 (Nat.le_of_ble_eq_true rfl) rfl ?_
        refine j_aload_n X (q := 44) d_J_exchange_43 rfl rfl ?_
        refine j_iload_n X (q := 45) d_J_exchange_44 rfl rfl ?_
        refine j_aload_n X (q := 46) d_J_exchange_45 rfl rfl ?_
        refine j_iload_n X (q := 47) d_J_exchange_46 rfl rfl ?_
        refine j_iconst X (v := (nI 1)) (q := 48) d_J_exchange_47 (by decide +kernel) rfl ?_
        refine j_iadd X (q := 49) d_J_exchange_48 rfl ?_
        refine j_iald X (j := j + 1) (q := 50) d_J_exchange_49 rfl (by decide) (nI_add j 1) (by omega) (hC _ _ (by show _ < 6; omega)) rfl (jHs_od hs hk (by omega)) ?_
        refine j_iast X (q := 51) d_J_exchange_50 rfl (by decide) rfl (by omega) (hC _ _ (by show _ < 6; omega)) rfl ?_
        refine j_aload_n X (q := 52) d_J_exchange_51 rfl rfl ?_
        refine j_iload_n X (q := 53) d_J_exchange_52 rfl rfl ?_
        refine j_iconst X (v := (nI 1)) (q := 54) d_J_exchange_53 (by decide +kernel) rfl ?_
        refine j_iadd X (q := 55) d_J_exchange_54 rfl ?_
        refine j_iload X (q := 57) d_J_exchange_55 rfl rfl ?_
        refine j_iast X (j := j + 1) (q := 58) d_J_exchange_57 rfl (by decide) (nI_add j 1) (by omega) (hC _ _ (by show _ < 6; omega)) rfl ?_
        refine j_iconst X (v := (nI 1)) (q := 59) d_J_exchange_58 (by decide +kernel) rfl ?_
        refine j_zret X d_J_exchange_59 (by decide +kernel) ?_
        refine ⟨⟨true, rfl, ⟨fun _ => ⟨h4, by rw [ck]; exact hin.1⟩, fun _ => rfl⟩, fun q => (by cases q), fun _ => ?_⟩, fun g hg => by rw [jxs_g _ _ _ _ _ (by omega), jxs_g _ _ _ _ _ (by omega)]⟩
        rw [ck, cj]
        exact jHs_exc hs (by omega)
      · have _b23 := True.intro
        have hb : ¬ (jin (nI k) 6 = true ∧ jin i (hyon h (nI k).toNatClampNeg - 1) = true) := fun q => by
          have q2 := q.2
          rw [ck] at q2
          obtain ⟨j, hj, rfl⟩ := jin_of q2 (by omega)
          refine h23 (Int32.lt_iff_toInt_lt.mpr ?_)
          rw [pk_sub_toInt (by omega) (by omega), nI_toInt (by omega)]
          omega
        refine j_iconst X (v := (nI 0)) (q := 27) d_J_exchange_26 (by decide +kernel) rfl ?_
        refine j_zret X d_J_exchange_27 (by decide +kernel) ?_
        exact ⟨⟨false, rfl, ⟨fun q => (by cases q), fun q => absurd q hb⟩, fun _ => rfl, fun q => (by cases q)⟩, fun _ _ => rfl⟩
