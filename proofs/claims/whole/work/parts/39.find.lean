/-! The search for cycles: find. -/
set_option maxRecDepth 100000 in
set_option maxHeartbeats 4000000 in
theorem c_C_find {l : Launch} {Θ : jxT} (hI : jxI Θ) (hC : ∀ g r, r < jrwJ g → Θ.2.2.2 g r) {A B D : Nat → Nat → Bool} {σ : jxM} (hA : jGb 21 A σ) (hB : jGb 22 B σ) (hD : jGb 23 D σ) {k : Nat} (hk4 : k < 4) : jxMet l y_C_find b_C_find 8 (some FieldType.int) (jrm 5) Θ [.inr (24, 0), .inr (20, 0), .inl (nI k)] σ (fun r' σ' => (∃ len, len ≤ 8 ∧ r' = some (.inl (nI len)) ∧ (len = 0 → ∀ n r, 2 ≤ n → n ≤ 8 → ¬ jcy (decide (2 ≤ k)) (jpl k A B D) D n r) ∧ (len ≠ 0 → ∃ row : Nat → Nat, (∀ i, i < len → σ' 29 0 i = nI (row i)) ∧ jmn (jcy (decide (2 ≤ k)) (jpl k A B D) D) len row)) ∧ ∀ g', g' < 25 ∨ 29 < g' → σ' g' = σ g') := by
  refine jxMet.of (own := "HistoryJudge$CycleSearch") hI (by decide) rfl (Nat.le_of_ble_eq_true rfl) (fun Γ X => ?_)
  show jxW Γ Θ (fun r' σ' => (∃ len, len ≤ 8 ∧ r' = some (.inl (nI len)) ∧ (len = 0 → ∀ n r, 2 ≤ n → n ≤ 8 → ¬ jcy (decide (2 ≤ k)) (jpl k A B D) D n r) ∧ (len ≠ 0 → ∃ row : Nat → Nat, (∀ i, i < len → σ' 29 0 i = nI (row i)) ∧ jmn (jcy (decide (2 ≤ k)) (jpl k A B D) D) len row)) ∧ ∀ g', g' < 25 ∨ 29 < g' → σ' g' = σ g') 0 [some (.inr (24, 0)), some (.inr (20, 0)), some (.inl (nI k)), none, none, none, none, none] [] σ
  have K : ∀ (N : Nat) (t : Nat) (len : Nat) (first : Nat) (σ1 : jxM), 8 - t < N → t ≤ 8 → jfd (fun u => jsf (fun q => jwk (decide (2 ≤ k)) (jpl k A B D) D u q u)) t len first → len ≤ 8 → first < 8 → jGb 25 (jpl k A B D) σ1 → jGb 26 D σ1 → (∀ g', g' < 25 ∨ 29 < g' → σ1 g' = σ g') → jxW Γ Θ (fun r' σ' => (∃ len, len ≤ 8 ∧ r' = some (.inl (nI len)) ∧ (len = 0 → ∀ n r, 2 ≤ n → n ≤ 8 → ¬ jcy (decide (2 ≤ k)) (jpl k A B D) D n r) ∧ (len ≠ 0 → ∃ row : Nat → Nat, (∀ i, i < len → σ' 29 0 i = nI (row i)) ∧ jmn (jcy (decide (2 ≤ k)) (jpl k A B D) D) len row)) ∧ ∀ g', g' < 25 ∨ 29 < g' → σ' g' = σ g') 26 [some (.inr (24, 0)), some (.inr (20, 0)), some (.inl (nI k)), some (.inl (jB (decide (2 ≤ k)))), some (.inl (nI len)), some (.inl (nI first)), some (.inl (nI t)), none] [] σ1 := by
    intro N
    induction N with
    | zero => intro t len first σ1 hn; exact absurd hn (Nat.not_lt_zero _)
    | succ N ih =>
      intro t len first σ1 hn ht hj hl8 hf8 hP1 hD1 hf1
      refine j_iload X (q := 28) d_C_find_26 rfl rfl ?_
      refine j_bipush X (v := (nI 8)) (q := 30) d_C_find_28 (by decide +kernel) rfl ?_
      refine j_ncmp_ge X (tgt := 92) (q := 33) d_C_find_30 (by decide) rfl (by omega) (by omega) (fun h30 => ?_) (fun h30 => ?_)
      · have _b30 := True.intro
        refine j_iload X (q := 94) d_C_find_92 rfl rfl ?_
        refine j_nif_eq X (tgt := 112) (q := 97) d_C_find_94 (by decide) rfl (by omega) (fun h94 => ?_) (fun h94 => ?_)
        · have _b94 := True.intro
          refine j_iload X (q := 114) d_C_find_112 rfl rfl ?_
          refine j_iret X d_C_find_114 ?_
          have et : t = 8 := by omega
          subst et
          exact ⟨⟨len, by omega, rfl, fun _ => by subst h94; exact jfd_none (fun u hu => jsf_sp _) hj, fun q => absurd h94 q⟩, hf1⟩
        · have _b94 := True.intro
          have hl2 : 2 ≤ len ∧ len ≤ 8 ∧ jwk (decide (2 ≤ k)) (jpl k A B D) D first len first = true := by
            rcases hj with ⟨q, -⟩ | ⟨-, -, q, -⟩
            · omega
            · rcases jsf_sp (fun q => jwk (decide (2 ≤ k)) (jpl k A B D) D first q first) with ⟨z, -⟩ | ⟨z1, z2, z3, -⟩
              · exact absurd (q.symm.trans z) (by assumption)
              · have q : jsf (fun q => jwk (decide (2 ≤ k)) (jpl k A B D) D first q first) = len := q
                rw [q] at z1 z2 z3
                exact ⟨z1, z2, z3⟩
          refine j_aload_n X (q := 98) d_C_find_97 rfl rfl ?_
          refine j_iload X (q := 100) d_C_find_98 rfl rfl ?_
          refine j_callV X (n := 1) (C := jR0) (T := jT0) (N := 5) d_C_find_100 (c_C_measure hI hC hP1 hD1 (t := first) (by omega)) rfl rfl (hC _ _ (by decide)) wl238 wl239 wl4 wl40 wl240 (by decide +kernel) ⟨rfl, rfl⟩ (by decide) rfl rfl (Nat.le_of_ble_eq_true rfl) rfl (q := 103) rfl (fun r100 τ100 e100 => ?_)
          obtain ⟨rfl, hv, hfm⟩ := e100
          refine j_aload_n X (q := 104) d_C_find_103 rfl rfl ?_
          refine j_iload X (q := 106) d_C_find_104 rfl rfl ?_
          refine j_iload X (q := 108) d_C_find_106 rfl rfl ?_
          refine j_iload_n X (q := 109) d_C_find_108 rfl rfl ?_
          refine j_callV X (n := 3) (C := jR0) (T := jT0) (N := 5) d_C_find_109 (c_C_trace hI hC (P := jpl k A B D) (M := D) (nd := decide (2 ≤ k)) (f := first) (n := len) (jGb_keep hP1 (hfm 25 (by decide) (by decide))) (jGb_keep hD1 (hfm 26 (by decide) (by decide))) hv (by omega) hl2.1 hl2.2.1 hl2.2.2) rfl rfl (hC _ _ (by decide)) wl247 wl248 wl5 wl40 wl249 (by decide +kernel) ⟨rfl, rfl⟩ (by decide) rfl rfl (Nat.le_of_ble_eq_true rfl) rfl (q := 112) rfl (fun r109 τ109 e109 => ?_)
          obtain ⟨rfl, ⟨row, mo, mp, hrow, hrow0, hjt⟩, hft⟩ := e109
          refine j_iload X (q := 114) d_C_find_112 rfl rfl ?_
          refine j_iret X d_C_find_114 ?_
          have et : t = 8 := by omega
          subst et
          refine ⟨⟨len, by omega, rfl, fun q => absurd q h94, fun _ => ⟨row, hrow, jfd_some (fun u hu => jsf_sp _) hj h94 hrow0 hjt (by omega)⟩⟩, fun g' hg => ?_⟩
          rw [hft g' (by omega), hfm g' (by omega) (by omega), hf1 g' hg]
      · have _b30 := True.intro
        refine j_aload_n X (q := 34) d_C_find_33 rfl rfl ?_
        refine j_iload X (q := 36) d_C_find_34 rfl rfl ?_
        refine j_callV X (n := 1) (C := jR0) (T := jT0) (N := 5) d_C_find_36 (c_C_measure hI hC hP1 hD1 (t := t) (by omega)) rfl rfl (hC _ _ (by decide)) wl238 wl239 wl4 wl40 wl240 (by decide +kernel) ⟨rfl, rfl⟩ (by decide) rfl rfl (Nat.le_of_ble_eq_true rfl) rfl (q := 39) rfl (fun r36 τ36 e36 => ?_)
        obtain ⟨rfl, hv, hfm⟩ := e36
        refine j_iload_n X (q := 40) d_C_find_39 rfl rfl ?_
        refine j_bif_eq X (tgt := 50) (q := 43) d_C_find_40 (by decide) rfl (fun h40 => ?_) (fun h40 => ?_)
        · have _b40 := True.intro
          have hnd : (fun q => jpd (jpl k A B D) t q t) = (fun q => jwk (decide (2 ≤ k)) (jpl k A B D) D t q t) := by funext q; rw [h40]; rfl
          refine j_aload_n X (q := 51) d_C_find_50 rfl rfl ?_
          refine j_getR X (C := jR0) (T := jT0) (N := 5) (ci := 0) (j := 2) (q := 54) d_C_find_51 ju0 rfl rfl rfl (by decide) wl140 rfl (hC _ _ (by decide)) rfl ?_
          refine j_iload X (q := 56) d_C_find_54 rfl rfl ?_
          refine j_callS X (n := 2) d_C_find_56 (c_C_shortest hI (g := 27) (w := jpd (jpl k A B D) t) rfl (hC _ _ (by decide)) (fun q hq => (hv q hq).1) (t := t) (by omega)) wl244 wl245 wl40 wl246 (by decide +kernel) ⟨rfl, rfl⟩ (by decide) rfl rfl (Nat.le_of_ble_eq_true rfl) rfl (q := 59) rfl (fun r56 τ56 e56 => ?_)
          obtain ⟨s9, hs98, rfl, rfl, hs9⟩ := e56
          have hu := jsp_uniq hs9 (jsf_sp _)
          have e9 : s9 = (fun u => jsf (fun q => jwk (decide (2 ≤ k)) (jpl k A B D) D u q u)) t := by rw [hu, hnd]
          have e8 : jsf (fun q => jwk (decide (2 ≤ k)) (jpl k A B D) D t q t) = s9 := e9.symm
          refine j_istore X (q := 61) d_C_find_59 (Nat.le_of_ble_eq_true rfl) rfl ?_
          refine j_iload X (q := 63) d_C_find_61 rfl rfl ?_
          refine j_nif_eq X (tgt := 86) (q := 66) d_C_find_63 (by decide) rfl (by omega) (fun h63 => ?_) (fun h63 => ?_)
          · have _b63 := True.intro
            refine j_iinc X (q := 89) d_C_find_86 rfl (j_inc1 _) rfl ?_
            refine j_goto X (tgt := 26) d_C_find_89 (by decide) ?_
            refine jxW.to (L' := [some (.inr (24, 0)), some (.inr (20, 0)), some (.inl (nI k)), some (.inl (jB (decide (2 ≤ k)))), some (.inl (nI len)), some (.inl (nI first)), some (.inl (nI (t + 1))), none]) (by simp [jfg]) ?_
            exact ih (t + 1) len first _ (by omega) (by omega) (jfd_leave hj (by rw [e8]; omega)) (by omega) (by omega) (jGb_keep hP1 (hfm 25 (by decide) (by decide))) (jGb_keep hD1 (hfm 26 (by decide) (by decide))) (fun g' hg => by rw [hfm g' (by omega) (by omega), hf1 g' hg])
          · have _b63 := True.intro
            refine j_iload X (q := 68) d_C_find_66 rfl rfl ?_
            refine j_nif_eq X (tgt := 78) (q := 71) d_C_find_68 (by decide) rfl (by omega) (fun h68 => ?_) (fun h68 => ?_)
            · have _b68 := True.intro
              refine j_iload X (q := 80) d_C_find_78 rfl rfl ?_
              refine j_istore X (q := 82) d_C_find_80 (Nat.le_of_ble_eq_true rfl) rfl ?_
              refine j_iload X (q := 84) d_C_find_82 rfl rfl ?_
              refine j_istore X (q := 86) d_C_find_84 (Nat.le_of_ble_eq_true rfl) rfl ?_
              refine j_iinc X (q := 89) d_C_find_86 rfl (j_inc1 _) rfl ?_
              refine j_goto X (tgt := 26) d_C_find_89 (by decide) ?_
              refine jxW.to (L' := [some (.inr (24, 0)), some (.inr (20, 0)), some (.inl (nI k)), some (.inl (jB (decide (2 ≤ k)))), some (.inl (nI s9)), some (.inl (nI t)), some (.inl (nI (t + 1))), none]) (by simp [jfg]) ?_
              exact ih (t + 1) s9 t _ (by omega) (by omega) (by rw [e9]; exact jfd_take hj (by rw [e8]; omega) (by rw [e8]; omega)) (by omega) (by omega) (jGb_keep hP1 (hfm 25 (by decide) (by decide))) (jGb_keep hD1 (hfm 26 (by decide) (by decide))) (fun g' hg => by rw [hfm g' (by omega) (by omega), hf1 g' hg])
            · have _b68 := True.intro
              refine j_iload X (q := 73) d_C_find_71 rfl rfl ?_
              refine j_iload X (q := 75) d_C_find_73 rfl rfl ?_
              refine j_ncmp_ge X (tgt := 86) (q := 78) d_C_find_75 (by decide) rfl (by omega) (by omega) (fun h75 => ?_) (fun h75 => ?_)
              · have _b75 := True.intro
                refine j_iinc X (q := 89) d_C_find_86 rfl (j_inc1 _) rfl ?_
                refine j_goto X (tgt := 26) d_C_find_89 (by decide) ?_
                refine jxW.to (L' := [some (.inr (24, 0)), some (.inr (20, 0)), some (.inl (nI k)), some (.inl (jB (decide (2 ≤ k)))), some (.inl (nI len)), some (.inl (nI first)), some (.inl (nI (t + 1))), none]) (by simp [jfg]) ?_
                exact ih (t + 1) len first _ (by omega) (by omega) (jfd_leave hj (by rw [e8]; omega)) (by omega) (by omega) (jGb_keep hP1 (hfm 25 (by decide) (by decide))) (jGb_keep hD1 (hfm 26 (by decide) (by decide))) (fun g' hg => by rw [hfm g' (by omega) (by omega), hf1 g' hg])
              · have _b75 := True.intro
                refine j_iload X (q := 80) d_C_find_78 rfl rfl ?_
                refine j_istore X (q := 82) d_C_find_80 (Nat.le_of_ble_eq_true rfl) rfl ?_
                refine j_iload X (q := 84) d_C_find_82 rfl rfl ?_
                refine j_istore X (q := 86) d_C_find_84 (Nat.le_of_ble_eq_true rfl) rfl ?_
                refine j_iinc X (q := 89) d_C_find_86 rfl (j_inc1 _) rfl ?_
                refine j_goto X (tgt := 26) d_C_find_89 (by decide) ?_
                refine jxW.to (L' := [some (.inr (24, 0)), some (.inr (20, 0)), some (.inl (nI k)), some (.inl (jB (decide (2 ≤ k)))), some (.inl (nI s9)), some (.inl (nI t)), some (.inl (nI (t + 1))), none]) (by simp [jfg]) ?_
                exact ih (t + 1) s9 t _ (by omega) (by omega) (by rw [e9]; exact jfd_take hj (by rw [e8]; omega) (by rw [e8]; omega)) (by omega) (by omega) (jGb_keep hP1 (hfm 25 (by decide) (by decide))) (jGb_keep hD1 (hfm 26 (by decide) (by decide))) (fun g' hg => by rw [hfm g' (by omega) (by omega), hf1 g' hg])
        · have _b40 := True.intro
          have hnd : (fun q => jow (jpl k A B D) D t q t) = (fun q => jwk (decide (2 ≤ k)) (jpl k A B D) D t q t) := by funext q; rw [h40]; rfl
          refine j_aload_n X (q := 44) d_C_find_43 rfl rfl ?_
          refine j_getR X (C := jR0) (T := jT0) (N := 5) (ci := 0) (j := 3) (q := 47) d_C_find_44 ju0 rfl rfl rfl (by decide) wl141 rfl (hC _ _ (by decide)) rfl ?_
          refine j_goto X (tgt := 54) d_C_find_47 (by decide) ?_
          refine j_iload X (q := 56) d_C_find_54 rfl rfl ?_
          refine j_callS X (n := 2) d_C_find_56 (c_C_shortest hI (g := 28) (w := jow (jpl k A B D) D t) rfl (hC _ _ (by decide)) (fun q hq => (hv q hq).2) (t := t) (by omega)) wl244 wl245 wl40 wl246 (by decide +kernel) ⟨rfl, rfl⟩ (by decide) rfl rfl (Nat.le_of_ble_eq_true rfl) rfl (q := 59) rfl (fun r56 τ56 e56 => ?_)
          obtain ⟨s9, hs98, rfl, rfl, hs9⟩ := e56
          have hu := jsp_uniq hs9 (jsf_sp _)
          have e9 : s9 = (fun u => jsf (fun q => jwk (decide (2 ≤ k)) (jpl k A B D) D u q u)) t := by rw [hu, hnd]
          have e8 : jsf (fun q => jwk (decide (2 ≤ k)) (jpl k A B D) D t q t) = s9 := e9.symm
          refine j_istore X (q := 61) d_C_find_59 (Nat.le_of_ble_eq_true rfl) rfl ?_
          refine j_iload X (q := 63) d_C_find_61 rfl rfl ?_
          refine j_nif_eq X (tgt := 86) (q := 66) d_C_find_63 (by decide) rfl (by omega) (fun h63 => ?_) (fun h63 => ?_)
          · have _b63 := True.intro
            refine j_iinc X (q := 89) d_C_find_86 rfl (j_inc1 _) rfl ?_
            refine j_goto X (tgt := 26) d_C_find_89 (by decide) ?_
            refine jxW.to (L' := [some (.inr (24, 0)), some (.inr (20, 0)), some (.inl (nI k)), some (.inl (jB (decide (2 ≤ k)))), some (.inl (nI len)), some (.inl (nI first)), some (.inl (nI (t + 1))), none]) (by simp [jfg]) ?_
            exact ih (t + 1) len first _ (by omega) (by omega) (jfd_leave hj (by rw [e8]; omega)) (by omega) (by omega) (jGb_keep hP1 (hfm 25 (by decide) (by decide))) (jGb_keep hD1 (hfm 26 (by decide) (by decide))) (fun g' hg => by rw [hfm g' (by omega) (by omega), hf1 g' hg])
          · have _b63 := True.intro
            refine j_iload X (q := 68) d_C_find_66 rfl rfl ?_
            refine j_nif_eq X (tgt := 78) (q := 71) d_C_find_68 (by decide) rfl (by omega) (fun h68 => ?_) (fun h68 => ?_)
            · have _b68 := True.intro
              refine j_iload X (q := 80) d_C_find_78 rfl rfl ?_
              refine j_istore X (q := 82) d_C_find_80 (Nat.le_of_ble_eq_true rfl) rfl ?_
              refine j_iload X (q := 84) d_C_find_82 rfl rfl ?_
              refine j_istore X (q := 86) d_C_find_84 (Nat.le_of_ble_eq_true rfl) rfl ?_
              refine j_iinc X (q := 89) d_C_find_86 rfl (j_inc1 _) rfl ?_
              refine j_goto X (tgt := 26) d_C_find_89 (by decide) ?_
              refine jxW.to (L' := [some (.inr (24, 0)), some (.inr (20, 0)), some (.inl (nI k)), some (.inl (jB (decide (2 ≤ k)))), some (.inl (nI s9)), some (.inl (nI t)), some (.inl (nI (t + 1))), none]) (by simp [jfg]) ?_
              exact ih (t + 1) s9 t _ (by omega) (by omega) (by rw [e9]; exact jfd_take hj (by rw [e8]; omega) (by rw [e8]; omega)) (by omega) (by omega) (jGb_keep hP1 (hfm 25 (by decide) (by decide))) (jGb_keep hD1 (hfm 26 (by decide) (by decide))) (fun g' hg => by rw [hfm g' (by omega) (by omega), hf1 g' hg])
            · have _b68 := True.intro
              refine j_iload X (q := 73) d_C_find_71 rfl rfl ?_
              refine j_iload X (q := 75) d_C_find_73 rfl rfl ?_
              refine j_ncmp_ge X (tgt := 86) (q := 78) d_C_find_75 (by decide) rfl (by omega) (by omega) (fun h75 => ?_) (fun h75 => ?_)
              · have _b75 := True.intro
                refine j_iinc X (q := 89) d_C_find_86 rfl (j_inc1 _) rfl ?_
                refine j_goto X (tgt := 26) d_C_find_89 (by decide) ?_
                refine jxW.to (L' := [some (.inr (24, 0)), some (.inr (20, 0)), some (.inl (nI k)), some (.inl (jB (decide (2 ≤ k)))), some (.inl (nI len)), some (.inl (nI first)), some (.inl (nI (t + 1))), none]) (by simp [jfg]) ?_
                exact ih (t + 1) len first _ (by omega) (by omega) (jfd_leave hj (by rw [e8]; omega)) (by omega) (by omega) (jGb_keep hP1 (hfm 25 (by decide) (by decide))) (jGb_keep hD1 (hfm 26 (by decide) (by decide))) (fun g' hg => by rw [hfm g' (by omega) (by omega), hf1 g' hg])
              · have _b75 := True.intro
                refine j_iload X (q := 80) d_C_find_78 rfl rfl ?_
                refine j_istore X (q := 82) d_C_find_80 (Nat.le_of_ble_eq_true rfl) rfl ?_
                refine j_iload X (q := 84) d_C_find_82 rfl rfl ?_
                refine j_istore X (q := 86) d_C_find_84 (Nat.le_of_ble_eq_true rfl) rfl ?_
                refine j_iinc X (q := 89) d_C_find_86 rfl (j_inc1 _) rfl ?_
                refine j_goto X (tgt := 26) d_C_find_89 (by decide) ?_
                refine jxW.to (L' := [some (.inr (24, 0)), some (.inr (20, 0)), some (.inl (nI k)), some (.inl (jB (decide (2 ≤ k)))), some (.inl (nI s9)), some (.inl (nI t)), some (.inl (nI (t + 1))), none]) (by simp [jfg]) ?_
                exact ih (t + 1) s9 t _ (by omega) (by omega) (by rw [e9]; exact jfd_take hj (by rw [e8]; omega) (by rw [e8]; omega)) (by omega) (by omega) (jGb_keep hP1 (hfm 25 (by decide) (by decide))) (jGb_keep hD1 (hfm 26 (by decide) (by decide))) (fun g' hg => by rw [hfm g' (by omega) (by omega), hf1 g' hg])
  refine j_aload_n X (q := 1) d_C_find_0 rfl rfl ?_
  refine j_aload_n X (q := 2) d_C_find_1 rfl rfl ?_
  refine j_iload_n X (q := 3) d_C_find_2 rfl rfl ?_
  refine j_callV X (n := 2) (C := jR0) (T := jT0) (N := 5) d_C_find_3 (c_C_sortEdges hI hC hA hB hD hk4) rfl rfl (hC _ _ (by decide)) wl235 wl236 wl3 wl40 wl237 (by decide +kernel) ⟨rfl, rfl⟩ (by decide) rfl rfl (Nat.le_of_ble_eq_true rfl) rfl (q := 6) rfl (fun r3 τ3 e3 => ?_)
  obtain ⟨rfl, hP0, hD0, hf0⟩ := e3
  refine j_iload_n X (q := 7) d_C_find_6 rfl rfl ?_
  refine j_iconst X (v := (nI 2)) (q := 8) d_C_find_7 (by decide +kernel) rfl ?_
  refine j_ncmp_lt X (tgt := 15) (q := 11) d_C_find_8 (by decide) rfl (by omega) (by omega) (fun h8 => ?_) (fun h8 => ?_)
  · have _b8 := True.intro
    have hnd0 : nI 0 = jB (decide (2 ≤ k)) := by rw [decide_eq_false (show ¬ 2 ≤ k by omega)]; rfl
    refine j_iconst X (v := (nI 0)) (q := 16) d_C_find_15 (by decide +kernel) rfl ?_
    refine j_istore_n X (j := 3) (q := 17) d_C_find_16 rfl (Nat.le_of_ble_eq_true rfl) rfl ?_
    refine j_iconst X (v := (nI 0)) (q := 18) d_C_find_17 (by decide +kernel) rfl ?_
    refine j_istore X (q := 20) d_C_find_18 (Nat.le_of_ble_eq_true rfl) rfl ?_
    refine j_iconst X (v := (nI 0)) (q := 21) d_C_find_20 (by decide +kernel) rfl ?_
    refine j_istore X (q := 23) d_C_find_21 (Nat.le_of_ble_eq_true rfl) rfl ?_
    refine j_iconst X (v := (nI 0)) (q := 24) d_C_find_23 (by decide +kernel) rfl ?_
    refine j_istore X (q := 26) d_C_find_24 (Nat.le_of_ble_eq_true rfl) rfl ?_
    refine jxW.to (L' := [some (.inr (24, 0)), some (.inr (20, 0)), some (.inl (nI k)), some (.inl (jB (decide (2 ≤ k)))), some (.inl (nI 0)), some (.inl (nI 0)), some (.inl (nI 0)), none]) (by simp [jfg, hnd0]) ?_
    exact K 9 0 0 0 _ (by omega) (by omega) jfd_0 (by omega) (by omega) hP0 hD0 (fun g' hg => hf0 g' (by omega) (by omega))
  · have _b8 := True.intro
    have hnd0 : nI 1 = jB (decide (2 ≤ k)) := by rw [decide_eq_true (show 2 ≤ k by omega)]; rfl
    refine j_iconst X (v := (nI 1)) (q := 12) d_C_find_11 (by decide +kernel) rfl ?_
    refine j_goto X (tgt := 16) d_C_find_12 (by decide) ?_
    refine j_istore_n X (j := 3) (q := 17) d_C_find_16 rfl (Nat.le_of_ble_eq_true rfl) rfl ?_
    refine j_iconst X (v := (nI 0)) (q := 18) d_C_find_17 (by decide +kernel) rfl ?_
    refine j_istore X (q := 20) d_C_find_18 (Nat.le_of_ble_eq_true rfl) rfl ?_
    refine j_iconst X (v := (nI 0)) (q := 21) d_C_find_20 (by decide +kernel) rfl ?_
    refine j_istore X (q := 23) d_C_find_21 (Nat.le_of_ble_eq_true rfl) rfl ?_
    refine j_iconst X (v := (nI 0)) (q := 24) d_C_find_23 (by decide +kernel) rfl ?_
    refine j_istore X (q := 26) d_C_find_24 (Nat.le_of_ble_eq_true rfl) rfl ?_
    refine jxW.to (L' := [some (.inr (24, 0)), some (.inr (20, 0)), some (.inl (nI k)), some (.inl (jB (decide (2 ≤ k)))), some (.inl (nI 0)), some (.inl (nI 0)), some (.inl (nI 0)), none]) (by simp [jfg, hnd0]) ?_
    exact K 9 0 0 0 _ (by omega) (by omega) jfd_0 (by omega) (by omega) hP0 hD0 (fun g' hg => hf0 g' (by omega) (by omega))
