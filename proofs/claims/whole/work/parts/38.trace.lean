/-! The search for cycles: the row is laid; the answer. -/
set_option maxRecDepth 100000 in
set_option maxHeartbeats 4000000 in
theorem c_C_trace {l : Launch} {Θ : jxT} (hI : jxI Θ) (hC : ∀ g r, r < jrwJ g → Θ.2.2.2 g r) {P M : Nat → Nat → Bool} {nd : Bool} {f n : Nat} {σ : jxM} (hP : jGb 25 P σ) (hM : jGb 26 M σ) (hv : ∀ i, i ≤ 8 → σ 27 0 i = bI (jpd P f i) ∧ σ 28 0 i = bI (jow P M f i)) (hf8 : f < 8) (hn2 : 2 ≤ n) (hn8 : n ≤ 8) (hwk : jwk nd P M f n f = true) : jxMet l y_C_trace b_C_trace 13 none (jrm 4) Θ [.inr (24, 0), .inl (nI f), .inl (nI n), .inl (jB nd)] σ (fun r' σ' => r' = none ∧ (∃ (row : Nat → Nat) (mo mp : Bool), (∀ i, i < n → σ' 29 0 i = nI (row i)) ∧ row 0 = f ∧ jti nd P M n (n - 1) row mo mp) ∧ ∀ g', g' ≠ 29 → σ' g' = σ g') := by
  refine jxMet.of (own := "HistoryJudge$CycleSearch") hI (by decide) rfl (Nat.le_of_ble_eq_true rfl) (fun Γ X => ?_)
  show jxW Γ Θ (fun r' σ' => r' = none ∧ (∃ (row : Nat → Nat) (mo mp : Bool), (∀ i, i < n → σ' 29 0 i = nI (row i)) ∧ row 0 = f ∧ jti nd P M n (n - 1) row mo mp) ∧ ∀ g', g' ≠ 29 → σ' g' = σ g') 0 [some (.inr (24, 0)), some (.inl (nI f)), some (.inl (nI n)), some (.inl (jB nd)), none, none, none, none, none, none, none, none, none] [] σ
  have K : ∀ (N : Nat) (j : Nat) (σ1 : jxM) (row : Nat → Nat) (mo mp : Bool), 8 - j < N → jti nd P M n j row mo mp → row 0 = f → (∀ i, i ≤ j → σ1 29 0 i = nI (row i)) → (∀ g', g' ≠ 29 → σ1 g' = σ g') → jxW Γ Θ (fun r' σ' => r' = none ∧ (∃ (row : Nat → Nat) (mo mp : Bool), (∀ i, i < n → σ' 29 0 i = nI (row i)) ∧ row 0 = f ∧ jti nd P M n (n - 1) row mo mp) ∧ ∀ g', g' ≠ 29 → σ' g' = σ g') 24 [some (.inr (24, 0)), some (.inl (nI f)), some (.inl (nI n)), some (.inl (jB nd)), some (.inl (jB (mo))), some (.inl (jB (mp))), some (.inl (nI (j + 1))), none, none, none, none, none, none] [] σ1 := by
    intro N
    induction N with
    | zero => intro j σ1 row mo mp hn; exact absurd hn (Nat.not_lt_zero _)
    | succ N ih =>
      intro j σ1 row mo mp hn hi1 hr0 hr1 hfr
      have hjn := hi1.1
      refine j_iload X (q := 26) d_C_trace_24 rfl rfl ?_
      refine j_iload_n X (q := 27) d_C_trace_26 rfl rfl ?_
      refine j_ncmp_ge X (tgt := 174) (q := 30) d_C_trace_27 (by decide) rfl (by omega) (by omega) (fun h27 => ?_) (fun h27 => ?_)
      · have _b27 := True.intro
        refine j_vret X d_C_trace_174 ?_
        refine ⟨rfl, ⟨row, mo, mp, fun i hi => hr1 i (by omega), hr0, ?_⟩, hfr⟩
        have e : n - 1 = j := by have := hi1.1; omega
        rw [e]; exact hi1
      · have _b27 := True.intro
        have J123 : j + 1 < n → jxW Γ Θ (fun r' σ' => r' = none ∧ (∃ (row : Nat → Nat) (mo mp : Bool), (∀ i, i < n → σ' 29 0 i = nI (row i)) ∧ row 0 = f ∧ jti nd P M n (n - 1) row mo mp) ∧ ∀ g', g' ≠ 29 → σ' g' = σ g') 123 [some (.inr (24, 0)), some (.inl (nI f)), some (.inl (nI n)), some (.inl (jB nd)), some (.inl (jB mo)), some (.inl (jB mp)), some (.inl (nI (j + 1))), some (.inl (nI (row j))), some (.inl (nI n - nI (j + 1))), some (.inl (bI (jso P M f (n - (j + 1)) (row j) mo))), some (.inl (bI (jnp P M f (n - (j + 1)) (row j) mo))), none, none] [.inl (bI (jsq P f (n - (j + 1)) (row j) mp))] σ1 := by
          intro hlt
          refine j_istore X (q := 125) d_C_trace_123 (Nat.le_of_ble_eq_true rfl) rfl ?_
          refine j_iload X (q := 127) d_C_trace_125 rfl rfl ?_
          refine j_iload X (q := 129) d_C_trace_127 rfl rfl ?_
          refine j_ior X (q := 130) d_C_trace_129 rfl ?_
          refine j_iload X (q := 132) d_C_trace_130 rfl rfl ?_
          refine j_ior X (q := 133) d_C_trace_132 rfl ?_
          refine jxW.cast rfl (show _ = [.inl (bI (jal P M f (n - (j + 1)) (row j) mo mp))] by rw [bI_or, bI_or]; rfl) rfl ?_
          refine j_callSN X (n := 1) d_C_trace_133 (c_J_least hI (jal P M f (n - (j + 1)) (row j) mo mp) _) wl251 nl6 wl36 wl250 (by decide +kernel) ⟨rfl, rfl⟩ (by decide) rfl rfl (Nat.le_of_ble_eq_true rfl) rfl (q := 136) rfl (fun r133 τ133 e133 => ?_)
          obtain ⟨x, hx8, rfl, rfl, hxs⟩ := e133
          have hjt : jal P M (row 0) (n - (j + 1)) (row j) mo mp = jal P M f (n - (j + 1)) (row j) mo mp := by rw [hr0]
          have hxs := hxs (by rw [← hjt]; exact jti_some hi1 (by omega))
          refine j_istore X (q := 138) d_C_trace_136 (Nat.le_of_ble_eq_true rfl) rfl ?_
          refine j_iload X (q := 140) d_C_trace_138 rfl rfl ?_
          refine j_iload X (q := 142) d_C_trace_140 rfl rfl ?_
          refine j_callSN X (n := 2) d_C_trace_142 (c_J_has hI (jso P M f (n - (j + 1)) (row j) mo) hx8 _) wl225 nl5 wl36 wl224 (by decide +kernel) ⟨rfl, rfl⟩ (by decide) rfl rfl (Nat.le_of_ble_eq_true rfl) rfl (q := 145) rfl (fun r142 τ142 e142 => ?_)
          obtain ⟨rfl, rfl⟩ := e142
          refine j_istore X (q := 147) d_C_trace_145 (Nat.le_of_ble_eq_true rfl) rfl ?_
          refine j_iload X (q := 149) d_C_trace_147 rfl rfl ?_
          refine j_iload X (q := 151) d_C_trace_149 rfl rfl ?_
          refine j_ior X (q := 152) d_C_trace_151 rfl ?_
          refine jxW.cast rfl (show _ = [.inl (bI (fun u => jnp P M f (n - (j + 1)) (row j) mo u || jsq P f (n - (j + 1)) (row j) mp u))] by rw [bI_or]; rfl) rfl ?_
          refine j_iload X (q := 154) d_C_trace_152 rfl rfl ?_
          refine j_callSN X (n := 2) d_C_trace_154 (c_J_has hI (fun u => jnp P M f (n - (j + 1)) (row j) mo u || jsq P f (n - (j + 1)) (row j) mp u) hx8 _) wl225 nl5 wl36 wl224 (by decide +kernel) ⟨rfl, rfl⟩ (by decide) rfl rfl (Nat.le_of_ble_eq_true rfl) rfl (q := 157) rfl (fun r154 τ154 e154 => ?_)
          obtain ⟨rfl, rfl⟩ := e154
          refine j_istore X (q := 159) d_C_trace_157 (Nat.le_of_ble_eq_true rfl) rfl ?_
          refine j_aload_n X (q := 160) d_C_trace_159 rfl rfl ?_
          refine j_getR X (C := jR0) (T := jT0) (N := 5) (ci := 0) (j := 4) (q := 163) d_C_trace_160 ju0 rfl rfl rfl (by decide) wl142 rfl (hC _ _ (by decide)) rfl ?_
          refine j_iload X (q := 165) d_C_trace_163 rfl rfl ?_
          refine j_iload X (q := 167) d_C_trace_165 rfl rfl ?_
          refine j_iast X (q := 168) d_C_trace_167 rfl (by decide) rfl (by omega) (hC _ _ (by decide)) rfl ?_
          refine j_iinc X (q := 171) d_C_trace_168 rfl (j_inc1 _) rfl ?_
          refine j_goto X (tgt := 24) d_C_trace_171 (by decide) ?_
          refine jxW.to (L' := [some (.inr (24, 0)), some (.inl (nI f)), some (.inl (nI n)), some (.inl (jB nd)), some (.inl (jB (jso P M f (n - (j + 1)) (row j) mo x))), some (.inl (jB ((jnp P M f (n - (j + 1)) (row j) mo x || jsq P f (n - (j + 1)) (row j) mp x)))), some (.inl (nI (j + 1 + 1))), none, none, none, none, none, none]) (by simp [jfg]) ?_
          have hst := jti_step (row' := fun k => if k = j + 1 then x else row k) hi1 (by omega) hx8 (by rw [hjt]; exact hxs.1) (fun u hu => by rw [hjt]; exact hxs.2 u hu) (fun k hk => if_neg (by omega)) (if_pos rfl)
          rw [hr0] at hst
          refine ih (j + 1) _ (fun k => if k = j + 1 then x else row k) _ _ (by omega) hst (by show (if 0 = j + 1 then x else row 0) = f; rw [if_neg (by omega)]; exact hr0) (fun i hi => ?_) (fun g' h1 => by rw [jxs_g _ _ _ _ _ h1, hfr g' h1])
          show _ = nI (if i = j + 1 then x else row i)
          by_cases e : i = j + 1
          · subst e; simp [jxs_at]
          · simp [jxs_at, e]; exact hr1 i (by omega)
        have J97 : j + 1 < n → jxW Γ Θ (fun r' σ' => r' = none ∧ (∃ (row : Nat → Nat) (mo mp : Bool), (∀ i, i < n → σ' 29 0 i = nI (row i)) ∧ row 0 = f ∧ jti nd P M n (n - 1) row mo mp) ∧ ∀ g', g' ≠ 29 → σ' g' = σ g') 97 [some (.inr (24, 0)), some (.inl (nI f)), some (.inl (nI n)), some (.inl (jB nd)), some (.inl (jB mo)), some (.inl (jB mp)), some (.inl (nI (j + 1))), some (.inl (nI (row j))), some (.inl (nI n - nI (j + 1))), some (.inl (bI (jso P M f (n - (j + 1)) (row j) mo))), none, none, none] [.inl (bI (jnp P M f (n - (j + 1)) (row j) mo))] σ1 := by
          intro hlt
          refine j_istore X (q := 99) d_C_trace_97 (Nat.le_of_ble_eq_true rfl) rfl ?_
          refine j_iload X (q := 101) d_C_trace_99 rfl rfl ?_
          refine j_bif_eq X (tgt := 122) (q := 104) d_C_trace_101 (by decide) rfl (fun h101 => ?_) (fun h101 => ?_)
          · have _b101 := True.intro
            refine j_iconst X (v := (nI 0)) (q := 123) d_C_trace_122 (by decide +kernel) rfl ?_
            refine jxW.cast rfl (show _ = [.inl (bI (jsq P f (n - (j + 1)) (row j) mp))] by (subst h101; rw [bI_n0]; congr 2)) rfl ?_
            exact J123 (by omega)
          · have _b101 := True.intro
            refine j_aload_n X (q := 105) d_C_trace_104 rfl rfl ?_
            refine j_getR X (C := jR0) (T := jT0) (N := 5) (ci := 0) (j := 0) (q := 108) d_C_trace_105 ju0 rfl rfl rfl (by decide) wl138 rfl (hC _ _ (by decide)) rfl ?_
            refine j_iload X (q := 110) d_C_trace_108 rfl rfl ?_
            refine j_iald X (q := 111) d_C_trace_110 rfl (by decide) rfl (hi1.2.1 j (by omega)) (hC _ _ (by decide)) rfl (jGb_keep hP (hfr 25 (by decide)) _ (hi1.2.1 j (by omega))) ?_
            refine j_aload_n X (q := 112) d_C_trace_111 rfl rfl ?_
            refine j_getR X (C := jR0) (T := jT0) (N := 5) (ci := 0) (j := 2) (q := 115) d_C_trace_112 ju0 rfl rfl rfl (by decide) wl140 rfl (hC _ _ (by decide)) rfl ?_
            refine j_iload X (q := 117) d_C_trace_115 rfl rfl ?_
            refine j_iald X (j := n - (j + 1)) (q := 118) d_C_trace_117 rfl (by decide) (pk_sub (by omega)) (by omega) (hC _ _ (by decide)) rfl (show _ = bI (jpd P f (n - (j + 1))) by (rw [hfr 27 (by decide)]; exact (hv _ (by omega)).1)) ?_
            refine j_iand X (q := 119) d_C_trace_118 rfl ?_
            refine j_goto X (tgt := 123) d_C_trace_119 (by decide) ?_
            refine jxW.cast rfl (show _ = [.inl (bI (jsq P f (n - (j + 1)) (row j) mp))] by (subst h101; rw [bI_and]; congr 2)) rfl ?_
            exact J123 (by omega)
        have J71 : j + 1 < n → jxW Γ Θ (fun r' σ' => r' = none ∧ (∃ (row : Nat → Nat) (mo mp : Bool), (∀ i, i < n → σ' 29 0 i = nI (row i)) ∧ row 0 = f ∧ jti nd P M n (n - 1) row mo mp) ∧ ∀ g', g' ≠ 29 → σ' g' = σ g') 71 [some (.inr (24, 0)), some (.inl (nI f)), some (.inl (nI n)), some (.inl (jB nd)), some (.inl (jB mo)), some (.inl (jB mp)), some (.inl (nI (j + 1))), some (.inl (nI (row j))), some (.inl (nI n - nI (j + 1))), none, none, none, none] [.inl (bI (jso P M f (n - (j + 1)) (row j) mo))] σ1 := by
          intro hlt
          refine j_istore X (q := 73) d_C_trace_71 (Nat.le_of_ble_eq_true rfl) rfl ?_
          refine j_iload X (q := 75) d_C_trace_73 rfl rfl ?_
          refine j_bif_eq X (tgt := 96) (q := 78) d_C_trace_75 (by decide) rfl (fun h75 => ?_) (fun h75 => ?_)
          · have _b75 := True.intro
            refine j_iconst X (v := (nI 0)) (q := 97) d_C_trace_96 (by decide +kernel) rfl ?_
            refine jxW.cast rfl (show _ = [.inl (bI (jnp P M f (n - (j + 1)) (row j) mo))] by (subst h75; rw [bI_n0]; congr 2)) rfl ?_
            exact J97 (by omega)
          · have _b75 := True.intro
            refine j_aload_n X (q := 79) d_C_trace_78 rfl rfl ?_
            refine j_getR X (C := jR0) (T := jT0) (N := 5) (ci := 0) (j := 1) (q := 82) d_C_trace_79 ju0 rfl rfl rfl (by decide) wl139 rfl (hC _ _ (by decide)) rfl ?_
            refine j_iload X (q := 84) d_C_trace_82 rfl rfl ?_
            refine j_iald X (q := 85) d_C_trace_84 rfl (by decide) rfl (hi1.2.1 j (by omega)) (hC _ _ (by decide)) rfl (jGb_keep hM (hfr 26 (by decide)) _ (hi1.2.1 j (by omega))) ?_
            refine j_aload_n X (q := 86) d_C_trace_85 rfl rfl ?_
            refine j_getR X (C := jR0) (T := jT0) (N := 5) (ci := 0) (j := 2) (q := 89) d_C_trace_86 ju0 rfl rfl rfl (by decide) wl140 rfl (hC _ _ (by decide)) rfl ?_
            refine j_iload X (q := 91) d_C_trace_89 rfl rfl ?_
            refine j_iald X (j := n - (j + 1)) (q := 92) d_C_trace_91 rfl (by decide) (pk_sub (by omega)) (by omega) (hC _ _ (by decide)) rfl (show _ = bI (jpd P f (n - (j + 1))) by (rw [hfr 27 (by decide)]; exact (hv _ (by omega)).1)) ?_
            refine j_iand X (q := 93) d_C_trace_92 rfl ?_
            refine j_goto X (tgt := 97) d_C_trace_93 (by decide) ?_
            refine jxW.cast rfl (show _ = [.inl (bI (jnp P M f (n - (j + 1)) (row j) mo))] by (subst h75; rw [bI_and]; congr 2)) rfl ?_
            exact J97 (by omega)
        refine j_aload_n X (q := 31) d_C_trace_30 rfl rfl ?_
        refine j_getR X (C := jR0) (T := jT0) (N := 5) (ci := 0) (j := 4) (q := 34) d_C_trace_31 ju0 rfl rfl rfl (by decide) wl142 rfl (hC _ _ (by decide)) rfl ?_
        refine j_iload X (q := 36) d_C_trace_34 rfl rfl ?_
        refine j_iconst X (v := (nI 1)) (q := 37) d_C_trace_36 (by decide +kernel) rfl ?_
        refine j_isub X (q := 38) d_C_trace_37 rfl ?_
        refine j_iald X (j := j) (q := 39) d_C_trace_38 rfl (by decide) (nI_pred j) (by omega) (hC _ _ (by decide)) rfl (hr1 j (Nat.le_refl _)) ?_
        refine j_istore X (q := 41) d_C_trace_39 (Nat.le_of_ble_eq_true rfl) rfl ?_
        refine j_iload_n X (q := 42) d_C_trace_41 rfl rfl ?_
        refine j_iload X (q := 44) d_C_trace_42 rfl rfl ?_
        refine j_isub X (q := 45) d_C_trace_44 rfl ?_
        refine j_istore X (q := 47) d_C_trace_45 (Nat.le_of_ble_eq_true rfl) rfl ?_
        refine j_iload X (q := 49) d_C_trace_47 rfl rfl ?_
        refine j_bif_eq X (tgt := 70) (q := 52) d_C_trace_49 (by decide) rfl (fun h49 => ?_) (fun h49 => ?_)
        · have _b49 := True.intro
          refine j_iconst X (v := (nI 0)) (q := 71) d_C_trace_70 (by decide +kernel) rfl ?_
          refine jxW.cast rfl (show _ = [.inl (bI (jso P M f (n - (j + 1)) (row j) mo))] by (subst h49; rw [bI_n0]; congr 2)) rfl ?_
          exact J71 (by omega)
        · have _b49 := True.intro
          refine j_aload_n X (q := 53) d_C_trace_52 rfl rfl ?_
          refine j_getR X (C := jR0) (T := jT0) (N := 5) (ci := 0) (j := 0) (q := 56) d_C_trace_53 ju0 rfl rfl rfl (by decide) wl138 rfl (hC _ _ (by decide)) rfl ?_
          refine j_iload X (q := 58) d_C_trace_56 rfl rfl ?_
          refine j_iald X (q := 59) d_C_trace_58 rfl (by decide) rfl (hi1.2.1 j (by omega)) (hC _ _ (by decide)) rfl (jGb_keep hP (hfr 25 (by decide)) _ (hi1.2.1 j (by omega))) ?_
          refine j_aload_n X (q := 60) d_C_trace_59 rfl rfl ?_
          refine j_getR X (C := jR0) (T := jT0) (N := 5) (ci := 0) (j := 3) (q := 63) d_C_trace_60 ju0 rfl rfl rfl (by decide) wl141 rfl (hC _ _ (by decide)) rfl ?_
          refine j_iload X (q := 65) d_C_trace_63 rfl rfl ?_
          refine j_iald X (j := n - (j + 1)) (q := 66) d_C_trace_65 rfl (by decide) (pk_sub (by omega)) (by omega) (hC _ _ (by decide)) rfl (show _ = bI (jow P M f (n - (j + 1))) by (rw [hfr 28 (by decide)]; exact (hv _ (by omega)).2)) ?_
          refine j_iand X (q := 67) d_C_trace_66 rfl ?_
          refine j_goto X (tgt := 71) d_C_trace_67 (by decide) ?_
          refine jxW.cast rfl (show _ = [.inl (bI (jso P M f (n - (j + 1)) (row j) mo))] by (subst h49; rw [bI_and]; congr 2)) rfl ?_
          exact J71 (by omega)
  refine j_iload_n X (q := 1) d_C_trace_0 rfl rfl ?_
  refine j_istore X (q := 3) d_C_trace_1 (Nat.le_of_ble_eq_true rfl) rfl ?_
  refine j_iload_n X (q := 4) d_C_trace_3 rfl rfl ?_
  refine j_bif_ne X (tgt := 11) (q := 7) d_C_trace_4 (by decide) rfl (fun h4 => ?_) (fun h4 => ?_)
  · have _b4 := True.intro
    have em : nI 0 = jB (!nd) := by rw [h4]; rfl
    refine j_iconst X (v := (nI 0)) (q := 12) d_C_trace_11 (by decide +kernel) rfl ?_
    refine j_istore X (q := 14) d_C_trace_12 (Nat.le_of_ble_eq_true rfl) rfl ?_
    refine j_aload_n X (q := 15) d_C_trace_14 rfl rfl ?_
    refine j_getR X (C := jR0) (T := jT0) (N := 5) (ci := 0) (j := 4) (q := 18) d_C_trace_15 ju0 rfl rfl rfl (by decide) wl142 rfl (hC _ _ (by decide)) rfl ?_
    refine j_iconst X (v := (nI 0)) (q := 19) d_C_trace_18 (by decide +kernel) rfl ?_
    refine j_iload_n X (q := 20) d_C_trace_19 rfl rfl ?_
    refine j_iast X (q := 21) d_C_trace_20 rfl (by decide) rfl (by omega) (hC _ _ (by decide)) rfl ?_
    refine j_iconst X (v := (nI 1)) (q := 22) d_C_trace_21 (by decide +kernel) rfl ?_
    refine j_istore X (q := 24) d_C_trace_22 (Nat.le_of_ble_eq_true rfl) rfl ?_
    refine jxW.to (L' := [some (.inr (24, 0)), some (.inl (nI f)), some (.inl (nI n)), some (.inl (jB nd)), some (.inl (jB (nd))), some (.inl (jB (!nd))), some (.inl (nI (0 + 1))), none, none, none, none, none, none]) (by simp [jfg, em]) ?_
    exact K 9 0 _ (fun _ => f) nd (!nd) (by omega) (jti_0 (by omega) hf8 hwk rfl) rfl (fun i hi => by rw [show i = 0 by omega]; simp [jxs_at]) (fun g' h1 => jxs_g _ _ _ _ _ h1)
  · have _b4 := True.intro
    have em : nI 1 = jB (!nd) := by rw [h4]; rfl
    refine j_iconst X (v := (nI 1)) (q := 8) d_C_trace_7 (by decide +kernel) rfl ?_
    refine j_goto X (tgt := 12) d_C_trace_8 (by decide) ?_
    refine j_istore X (q := 14) d_C_trace_12 (Nat.le_of_ble_eq_true rfl) rfl ?_
    refine j_aload_n X (q := 15) d_C_trace_14 rfl rfl ?_
    refine j_getR X (C := jR0) (T := jT0) (N := 5) (ci := 0) (j := 4) (q := 18) d_C_trace_15 ju0 rfl rfl rfl (by decide) wl142 rfl (hC _ _ (by decide)) rfl ?_
    refine j_iconst X (v := (nI 0)) (q := 19) d_C_trace_18 (by decide +kernel) rfl ?_
    refine j_iload_n X (q := 20) d_C_trace_19 rfl rfl ?_
    refine j_iast X (q := 21) d_C_trace_20 rfl (by decide) rfl (by omega) (hC _ _ (by decide)) rfl ?_
    refine j_iconst X (v := (nI 1)) (q := 22) d_C_trace_21 (by decide +kernel) rfl ?_
    refine j_istore X (q := 24) d_C_trace_22 (Nat.le_of_ble_eq_true rfl) rfl ?_
    refine jxW.to (L' := [some (.inr (24, 0)), some (.inl (nI f)), some (.inl (nI n)), some (.inl (jB nd)), some (.inl (jB (nd))), some (.inl (jB (!nd))), some (.inl (nI (0 + 1))), none, none, none, none, none, none]) (by simp [jfg, em]) ?_
    exact K 9 0 _ (fun _ => f) nd (!nd) (by omega) (jti_0 (by omega) hf8 hwk rfl) rfl (fun i hi => by rw [show i = 0 by omega]; simp [jxs_at]) (fun g' h1 => jxs_g _ _ _ _ _ h1)
/-- the shortest, as a number -/
def jsf (w : Nat → Bool) : Nat := if w 2 then 2 else if w 3 then 3 else if w 4 then 4 else if w 5 then 5 else if w 6 then 6 else if w 7 then 7 else if w 8 then 8 else 0
theorem jsp_uniq {w : Nat → Bool} {s s' : Nat} (h : jsp w s) (h' : jsp w s') : s = s' := by
  rcases h with ⟨e, h⟩ | ⟨a1, a2, a3, a4⟩ <;> rcases h' with ⟨e', h'⟩ | ⟨b1, b2, b3, b4⟩
  · omega
  · rw [h s' b1 b2] at b3; cases b3
  · rw [h' s a1 a2] at a3; cases a3
  · rcases Nat.lt_trichotomy s s' with q | q | q
    · rw [b4 s a1 q] at a3; cases a3
    · exact q
    · rw [a4 s' b1 q] at b3; cases b3
theorem jsf_sp (w : Nat → Bool) : jsp w (jsf w) := by
  unfold jsf
  have key : ∀ k, 2 ≤ k → k ≤ 8 → k = 2 ∨ k = 3 ∨ k = 4 ∨ k = 5 ∨ k = 6 ∨ k = 7 ∨ k = 8 := fun k h1 h2 => by omega
  repeat' split
  · exact Or.inr ⟨by omega, by omega, by assumption, fun k h1 h2 => by omega⟩
  · rename_i h1 h2
    exact Or.inr ⟨by omega, by omega, by assumption, fun k g1 g2 => by rcases key k g1 (by omega) with rfl | rfl | rfl | rfl | rfl | rfl | rfl <;> first | omega | simpa using h1⟩
  · rename_i h1 h2 h3
    exact Or.inr ⟨by omega, by omega, by assumption, fun k g1 g2 => by rcases key k g1 (by omega) with rfl | rfl | rfl | rfl | rfl | rfl | rfl <;> first | omega | simpa using h1 | simpa using h2⟩
  · rename_i h1 h2 h3 h4
    exact Or.inr ⟨by omega, by omega, by assumption, fun k g1 g2 => by rcases key k g1 (by omega) with rfl | rfl | rfl | rfl | rfl | rfl | rfl <;> first | omega | simpa using h1 | simpa using h2 | simpa using h3⟩
  · rename_i h1 h2 h3 h4 h5
    exact Or.inr ⟨by omega, by omega, by assumption, fun k g1 g2 => by rcases key k g1 (by omega) with rfl | rfl | rfl | rfl | rfl | rfl | rfl <;> first | omega | simpa using h1 | simpa using h2 | simpa using h3 | simpa using h4⟩
  · rename_i h1 h2 h3 h4 h5 h6
    exact Or.inr ⟨by omega, by omega, by assumption, fun k g1 g2 => by rcases key k g1 (by omega) with rfl | rfl | rfl | rfl | rfl | rfl | rfl <;> first | omega | simpa using h1 | simpa using h2 | simpa using h3 | simpa using h4 | simpa using h5⟩
  · rename_i h1 h2 h3 h4 h5 h6 h7
    exact Or.inr ⟨by omega, by omega, by assumption, fun k g1 g2 => by rcases key k g1 (by omega) with rfl | rfl | rfl | rfl | rfl | rfl | rfl <;> first | omega | simpa using h1 | simpa using h2 | simpa using h3 | simpa using h4 | simpa using h5 | simpa using h6⟩
  · rename_i h1 h2 h3 h4 h5 h6 h7
    exact Or.inl ⟨rfl, fun k g1 g2 => by rcases key k g1 g2 with rfl | rfl | rfl | rfl | rfl | rfl | rfl <;> first | simpa using h1 | simpa using h2 | simpa using h3 | simpa using h4 | simpa using h5 | simpa using h6 | simpa using h7⟩
