/-! The reference: the search for a row. -/
theorem jok_c {h : jH} (hw : jHw h) {k a b : Nat} (q : jok h k a b) : a ≠ b ∧ hyS h a = 2 ∧ hyS h b = 2 := by
  rcases q with q | q | q
  · exact jWW_c hw q
  · exact jWR_c q.2
  · exact jRW_c hw q.2
theorem jsc_fp {h : jH} (hw : jHw h) {k n : Nat} (hk : k < 4) (hn : 2 ≤ n) {r : Nat → Nat} (q : jSc h k n r) {d : Nat} (hd : d < n) : jfp h k d (r d) r := by
  obtain ⟨q1, q2, q3⟩ := q
  have hc := (jclo_iff (h := h) (row := r) hk q1.1).mp q1
  refine ⟨(jok_c hw (hc.1 d hd)).2.1, ?_⟩
  by_cases e : d = 0
  · exact Or.inl e
  · refine Or.inr ⟨q3 d (by omega) hd, fun i hi z => ?_, ?_⟩
    · have := q2 i d (by omega) hd z; omega
    · have := hc.1 (d - 1) (by omega)
      rwa [show jnx n (d - 1) = d by (unfold jnx; rw [if_neg (by omega)]; omega)] at this
theorem jfp_ext {h : jH} {k d t : Nat} {row r : Nat → Nat} (e : ∀ i, i < d → row i = r i) : jfp h k d t row ↔ jfp h k d t r := by
  unfold jfp
  by_cases z : d = 0
  · simp [z]
  · rw [e 0 (by omega), e (d - 1) (by omega)]
    constructor
    · exact fun q => ⟨q.1, q.2.imp id (fun y => ⟨y.1, fun i hi => by rw [← e i hi]; exact y.2.1 i hi, y.2.2⟩)⟩
    · exact fun q => ⟨q.1, q.2.imp id (fun y => ⟨y.1, fun i hi => by rw [e i hi]; exact y.2.1 i hi, y.2.2⟩)⟩
theorem jsc_of {h : jH} {k n : Nat} {row : Nat → Nat} (hp : ∀ d, d < n → jfp h k d (row d) row) (hc : jCy h k n row) : jSc h k n row := by
  have key : ∀ i j, i < j → j < n → row i ≠ row j := fun i j hij hj => by
    rcases (hp j hj).2 with q | q
    · omega
    · exact q.2.1 i hij
  refine ⟨hc, fun i j hi hj e => ?_, fun i h0 hi => ?_⟩
  · rcases Nat.lt_trichotomy i j with q | q | q
    · exact absurd e (key i j q hj)
    · exact q
    · exact absurd e.symm (key j i q hi)
  · rcases (hp i hi).2 with q | q
    · omega
    · exact q.1
theorem jCy_ext {h : jH} {k n : Nat} {row r : Nat → Nat} (hn : 0 < n) (e : ∀ i, i < n → row i = r i) (q : jCy h k n r) : jCy h k n row := by
  have nx : ∀ i, i < n → jnx n i < n := fun i hi => by unfold jnx; split <;> omega
  unfold jCy jcy at q ⊢
  refine ⟨fun i hi => by rw [e i hi]; exact q.1 i hi, ?_⟩
  have q2 := q.2
  by_cases z : decide (2 ≤ k) = true
  · rw [if_pos z] at q2 ⊢
    obtain ⟨m, hm, hM, hP⟩ := q2
    exact ⟨m, hm, by rw [e m hm, e _ (nx m hm)]; exact hM, fun i hi hne => by rw [e i hi, e _ (nx i hi)]; exact hP i hi hne⟩
  · rw [if_neg z] at q2 ⊢
    exact fun i hi => by rw [e i hi, e _ (nx i hi)]; exact q2 i hi
/-- where the search stands -/
def jInv (h : jH) (k n : Nat) (σ : jxM) (D : Nat) (row tr : Nat → Nat) (σ1 : jxM) : Prop := (∀ g', g' ≠ 51 → g' ≠ 52 → σ1 g' = σ g') ∧ match D with
  | 0 => ∀ r, ¬ jSc h k n r
  | d + 1 => d < n ∧ jRo d row σ1 ∧ (∀ i, i < d → jfp h k i (row i) row) ∧ (∀ i, i ≤ d → σ1 52 0 i = nI (tr i)) ∧ (∀ i, i < d → tr i = row i + 1) ∧ tr d ≤ 8 ∧ jdf (jSc h k n) d row tr
def jmuD (n : Nat) (tr : Nat → Nat) : Nat → Nat
  | 0 => 0
  | d + 1 => jmu n tr d + 1
theorem jInv_0 {h : jH} {k n : Nat} {σ : jxM} (hn : 0 < n) : jInv h k n σ (0 + 1) (fun _ => 0) (fun _ => 0) (jxs σ 52 0 0 (nI 0)) := by
  have z : ∀ i, ¬ i < 0 := fun i hi => by omega
  refine ⟨fun g' h1 h2 => jxs_g _ _ _ _ _ h2, hn, fun i hi => absurd hi (z i), fun i hi => absurd hi (z i), fun i hi => ?_, fun i hi => absurd hi (z i), Nat.zero_le _, jdf_0 (fun r _ => Nat.zero_le _)⟩
  rw [jxs_at, if_pos ⟨rfl, rfl, Nat.le_zero.mp hi⟩]
theorem j_prd (d : Nat) : nI d - nI 1 = vI (jprd d) := by
  cases d with
  | zero => decide +kernel
  | succ d => exact nI_pred d
set_option maxRecDepth 100000 in
set_option maxHeartbeats 4000000 in
theorem c_M_tryRows {l : Launch} {Θ : jxT} (hI : jxI Θ) (hC : ∀ g r, r < jrwM g → Θ.2.2.2 g r) {h : jH} {v : jV} {σ : jxM} (hw : jHw h) (hv : jVc h v) (hm : jMs h v σ) (hd : jDr h σ) {k n : Nat} (hk : k < 4) (hn2 : 2 ≤ n) (hn8 : n ≤ 8) : jxMet l y_M_tryRows b_M_tryRows 5 (some FieldType.boolean) (jrm 3) Θ [.inr (40, 0), .inl (nI k), .inl (nI n)] σ (fun r' σ' => (∃ b : Bool, r' = some (.inl (jB b)) ∧ (b = false → ∀ r, ¬ jSc h k n r) ∧ (b = true → ∃ row, (∀ i, i < n → σ' 51 0 i = nI (row i)) ∧ jSc h k n row ∧ ∀ r, jSc h k n r → jlx n row r)) ∧ ∀ g', g' ≠ 51 → g' ≠ 52 → σ' g' = σ g') := by
  refine jxMet.of (own := "HistoryJudgeModel") hI (by decide) rfl (Nat.le_of_ble_eq_true rfl) (fun Γ X => ?_)
  show jxW Γ Θ (fun r' σ' => (∃ b : Bool, r' = some (.inl (jB b)) ∧ (b = false → ∀ r, ¬ jSc h k n r) ∧ (b = true → ∃ row, (∀ i, i < n → σ' 51 0 i = nI (row i)) ∧ jSc h k n row ∧ ∀ r, jSc h k n r → jlx n row r)) ∧ ∀ g', g' ≠ 51 → g' ≠ 52 → σ' g' = σ g') 0 [some (.inr (40, 0)), some (.inl (nI k)), some (.inl (nI n)), none, none] [] σ
  have K : ∀ (N : Nat) (D : Nat) (σ1 : jxM) (row : Nat → Nat) (tr : Nat → Nat), jmuD n tr D < N → jInv h k n σ D row tr σ1 → jxW Γ Θ (fun r' σ' => (∃ b : Bool, r' = some (.inl (jB b)) ∧ (b = false → ∀ r, ¬ jSc h k n r) ∧ (b = true → ∃ row, (∀ i, i < n → σ' 51 0 i = nI (row i)) ∧ jSc h k n row ∧ ∀ r, jSc h k n r → jlx n row r)) ∧ ∀ g', g' ≠ 51 → g' ≠ 52 → σ' g' = σ g') 9 [some (.inr (40, 0)), some (.inl (nI k)), some (.inl (nI n)), some (.inl (vI (jprd D))), none] [] σ1 := by
    intro N
    induction N with
    | zero => intro D σ1 row tr hn; exact absurd hn (Nat.not_lt_zero _)
    | succ N ih =>
      intro D σ1 row tr hn hinv
      refine j_iload_n X (q := 10) d_M_tryRows_9 rfl rfl ?_
      refine j_if_lt X (tgt := 99) (q := 13) d_M_tryRows_10 (by decide) rfl (fun h10 => ?_) (fun h10 => ?_)
      · have _b10 := True.intro
        have hD0 : D = 0 := by
          cases D with
          | zero => rfl
          | succ d => exact absurd h10 (nI_pos (by have := hinv.2.1; omega))
        subst hD0
        refine j_iconst X (v := (nI 0)) (q := 100) d_M_tryRows_99 (by decide +kernel) rfl ?_
        refine j_zret X d_M_tryRows_100 (by decide +kernel) ?_
        exact ⟨⟨false, rfl, fun _ => hinv.2, fun q => by cases q⟩, hinv.1⟩
      · have _b10 := True.intro
        obtain ⟨d, rfl⟩ : ∃ d, D = d + 1 := by
          cases D with
          | zero => exact absurd (by decide +kernel : vI (jprd 0) < 0) h10
          | succ d => exact ⟨d, rfl⟩
        obtain ⟨hf1, hdn, hro, hfp, htv, htr, ht8, hdf⟩ := hinv
        refine j_aload_n X (q := 14) d_M_tryRows_13 rfl rfl ?_
        refine j_getR X (C := jR5) (T := jT5) (N := 18) (ci := 5) (j := 15) (q := 17) d_M_tryRows_14 ju5 rfl rfl rfl (by decide) wl498 rfl (hC _ _ (by decide)) rfl ?_
        refine j_iload_n X (q := 18) d_M_tryRows_17 rfl rfl ?_
        refine j_iald X (j := d) (q := 19) d_M_tryRows_18 rfl (by decide) rfl (by omega) (hC _ _ (by decide)) rfl (htv d (Nat.le_refl _)) ?_
        refine j_istore X (q := 21) d_M_tryRows_19 (Nat.le_of_ble_eq_true rfl) rfl ?_
        refine j_aload_n X (q := 22) d_M_tryRows_21 rfl rfl ?_
        refine j_getR X (C := jR5) (T := jT5) (N := 18) (ci := 5) (j := 15) (q := 25) d_M_tryRows_22 ju5 rfl rfl rfl (by decide) wl498 rfl (hC _ _ (by decide)) rfl ?_
        refine j_iload_n X (q := 26) d_M_tryRows_25 rfl rfl ?_
        refine j_iload X (q := 28) d_M_tryRows_26 rfl rfl ?_
        refine j_iconst X (v := (nI 1)) (q := 29) d_M_tryRows_28 (by decide +kernel) rfl ?_
        refine j_iadd X (q := 30) d_M_tryRows_29 rfl ?_
        refine j_iast X (j := d) (q := 31) d_M_tryRows_30 rfl (by decide) rfl (by omega) (hC _ _ (by decide)) rfl ?_
        refine j_iload X (q := 33) d_M_tryRows_31 rfl rfl ?_
        refine j_bipush X (v := (nI 8)) (q := 35) d_M_tryRows_33 (by decide +kernel) rfl ?_
        refine j_ncmp_ne X (tgt := 45) (q := 38) d_M_tryRows_35 (by decide) rfl (by omega) (by omega) (fun h35 => ?_) (fun h35 => ?_)
        · have _b35 := True.intro
          refine j_aload_n X (q := 46) d_M_tryRows_45 rfl rfl ?_
          refine j_iload_n X (q := 47) d_M_tryRows_46 rfl rfl ?_
          refine j_iload_n X (q := 48) d_M_tryRows_47 rfl rfl ?_
          refine j_iload X (q := 50) d_M_tryRows_48 rfl rfl ?_
          refine j_callV X (n := 3) (C := jR5) (T := jT5) (N := 18) d_M_tryRows_50 (c_M_fits hI hC hw hv (jMs_keep hm ⟨fun g h1 h2 => by rw [jxs_g _ _ _ _ _ (by omega), hf1 g (by omega) (by omega)], fun j _ _ => by rw [jxs_g _ _ _ _ _ (by decide), hf1 40 (by decide) (by decide)]⟩) (fun a b ha hb => by rw [jxs_g _ _ _ _ _ (by decide), hf1 50 (by decide) (by decide)]; exact hd a b ha hb) (k := k) (d := d) (t := tr d) (row := row) hk (by omega) (by omega) (fun i hi => by rw [jxs_g _ _ _ _ _ (by decide)]; exact hro i hi)) rfl rfl (hC _ _ (by decide)) wl602 wl603 wl27 wl42 wl604 (by decide +kernel) ⟨rfl, rfl⟩ (by decide) rfl rfl (Nat.le_of_ble_eq_true rfl) rfl (q := 53) rfl (fun r50 τ50 e50 => ?_)
          obtain ⟨rfl, rfl⟩ := e50
          refine j_bif_eq X (tgt := 96) (q := 56) d_M_tryRows_53 (by decide) rfl (fun h53 => ?_) (fun h53 => ?_)
          · have _b53 := True.intro
            refine j_goto X (tgt := 9) d_M_tryRows_96 (by decide) ?_
            refine jxW.to (L' := [some (.inr (40, 0)), some (.inl (nI k)), some (.inl (nI n)), some (.inl (vI (jprd (d + 1)))), none]) (by simp [jfg]) ?_
            refine ih (d + 1) _ row (jup tr d (tr d + 1)) (Nat.lt_of_lt_of_le (Nat.add_lt_add_right (jmu_no (n := n) (tr := tr) (tr' := jup tr d (tr d + 1)) (d := d) (fun i hi => if_neg (by omega)) (if_pos rfl) (show tr d < 10 by omega)) 1) (Nat.le_of_lt_succ hn)) ⟨fun g' h1 h2 => by rw [jxs_g _ _ _ _ _ h2, hf1 g' h1 h2], hdn, fun i hi => by rw [jxs_g _ _ _ _ _ (by decide)]; exact hro i hi, hfp, fun i hi => ?_, fun i hi => by show (if i = d then _ else tr i) = _; rw [if_neg (by omega)]; exact htr i hi, by show (if d = d then _ else tr d) ≤ 8; rw [if_pos rfl]; omega, jdf_no hdf (fun r hr hag e => by
              have := jsc_fp hw hk hn2 hr (show d < n from hdn)
              rw [e] at this
              exact (jd_no.mp h53) ((jfp_ext hag).mpr this)) (if_pos rfl)⟩
            rw [jxs_at]
            show _ = nI (if i = d then _ else tr i)
            by_cases z : i = d
            · subst z; rw [if_pos ⟨rfl, rfl, rfl⟩, if_pos rfl, nI_add]
            · rw [if_neg (fun q => z q.2.2), if_neg z]; exact htv i hi
          · have _b53 := True.intro
            refine j_aload_n X (q := 57) d_M_tryRows_56 rfl rfl ?_
            refine j_getR X (C := jR5) (T := jT5) (N := 18) (ci := 5) (j := 14) (q := 60) d_M_tryRows_57 ju5 rfl rfl rfl (by decide) wl497 rfl (hC _ _ (by decide)) rfl ?_
            refine j_iload_n X (q := 61) d_M_tryRows_60 rfl rfl ?_
            refine j_iload X (q := 63) d_M_tryRows_61 rfl rfl ?_
            refine j_iast X (j := d) (q := 64) d_M_tryRows_63 rfl (by decide) rfl (by omega) (hC _ _ (by decide)) rfl ?_
            refine j_iload_n X (q := 65) d_M_tryRows_64 rfl rfl ?_
            refine j_iconst X (v := (nI 1)) (q := 66) d_M_tryRows_65 (by decide +kernel) rfl ?_
            refine j_iadd X (q := 67) d_M_tryRows_66 rfl ?_
            refine j_iload_n X (q := 68) d_M_tryRows_67 rfl rfl ?_
            refine jxW.cast rfl (show _ = [.inl (nI n), .inl (nI (d + 1))] by rw [show vI (jprd (d + 1)) = nI d from rfl, nI_add]; rfl) rfl ?_
            refine j_ncmp_ge X (tgt := 85) (q := 71) d_M_tryRows_68 (by decide) rfl (by omega) (by omega) (fun h68 => ?_) (fun h68 => ?_)
            · have _b68 := True.intro
              have hrow2 : jRo n (jup row d (tr d)) (jxs (jxs σ1 52 0 d (nI (tr d) + nI 1)) 51 0 d (nI (tr d))) := fun i hi => by
                show (if i = d then tr d else row i) < 8 ∧ _ = nI (if i = d then tr d else row i)
                rw [jxs_at]
                by_cases z : i = d
                · subst z; rw [if_pos rfl, if_pos ⟨rfl, rfl, rfl⟩]; exact ⟨by omega, rfl⟩
                · rw [if_neg z, if_neg (fun q => z q.2.2), jxs_g _ _ _ _ _ (by decide)]; exact hro i (by omega)
              refine j_aload_n X (q := 86) d_M_tryRows_85 rfl rfl ?_
              refine j_iload_n X (q := 87) d_M_tryRows_86 rfl rfl ?_
              refine j_iload_n X (q := 88) d_M_tryRows_87 rfl rfl ?_
              refine j_callV X (n := 2) (C := jR5) (T := jT5) (N := 18) d_M_tryRows_88 (c_M_closes hI hC (h := h) (fun a b ha hb => by rw [jxs_g _ _ _ _ _ (by decide), jxs_g _ _ _ _ _ (by decide), hf1 50 (by decide) (by decide)]; exact hd a b ha hb) (k := k) (n := n) (row := jup row d (tr d)) hk hn2 hn8 hrow2) rfl rfl (hC _ _ (by decide)) wl611 wl612 wl29 wl42 wl613 (by decide +kernel) ⟨rfl, rfl⟩ (by decide) rfl rfl (Nat.le_of_ble_eq_true rfl) rfl (q := 91) rfl (fun r88 τ88 e88 => ?_)
              obtain ⟨rfl, rfl⟩ := e88
              refine j_bif_eq X (tgt := 96) (q := 94) d_M_tryRows_91 (by decide) rfl (fun h91 => ?_) (fun h91 => ?_)
              · have _b91 := True.intro
                refine j_goto X (tgt := 9) d_M_tryRows_96 (by decide) ?_
                refine jxW.to (L' := [some (.inr (40, 0)), some (.inl (nI k)), some (.inl (nI n)), some (.inl (vI (jprd (d + 1)))), none]) (by simp [jfg]) ?_
                refine ih (d + 1) _ row (jup tr d (tr d + 1)) (Nat.lt_of_lt_of_le (Nat.add_lt_add_right (jmu_no (n := n) (tr := tr) (tr' := jup tr d (tr d + 1)) (d := d) (fun i hi => if_neg (by omega)) (if_pos rfl) (show tr d < 10 by omega)) 1) (Nat.le_of_lt_succ hn)) ⟨fun g' h1 h2 => by rw [jxs_g _ _ _ _ _ h1, jxs_g _ _ _ _ _ h2, hf1 g' h1 h2], hdn, fun i hi => ⟨(hro i hi).1, by rw [jxs_at, if_neg (by omega), jxs_g _ _ _ _ _ (by decide)]; exact (hro i hi).2⟩, hfp, fun i hi => ?_, fun i hi => by show (if i = d then _ else tr i) = _; rw [if_neg (by omega)]; exact htr i hi, by show (if d = d then _ else tr d) ≤ 8; rw [if_pos rfl]; omega, jdf_no hdf (fun r hr hag e => ?_) (if_pos rfl)⟩
                · rw [jxs_g _ _ _ _ _ (by decide), jxs_at]
                  show _ = nI (if i = d then _ else tr i)
                  by_cases z : i = d
                  · subst z; rw [if_pos ⟨rfl, rfl, rfl⟩, if_pos rfl, nI_add]
                  · rw [if_neg (fun q => z q.2.2), if_neg z]; exact htv i hi
                · refine jd_no.mp h91 (jCy_ext (by omega) (fun i hi => ?_) hr.1)
                  show (if i = d then tr d else row i) = r i
                  by_cases z : i = d
                  · rw [if_pos z, z, e]
                  · rw [if_neg z]; exact hag i (by omega)
              · have _b91 := True.intro
                refine j_iconst X (v := (nI 1)) (q := 95) d_M_tryRows_94 (by decide +kernel) rfl ?_
                refine j_zret X d_M_tryRows_95 (by decide +kernel) ?_
                refine ⟨⟨true, rfl, fun q => (by cases q), fun _ => ⟨jup row d (tr d), fun i hi => (hrow2 i hi).2, jsc_of (fun i hi => ?_) (jd_iff.mp h91), fun r hr => ?_⟩⟩, fun g' h1 h2 => by rw [jxs_g _ _ _ _ _ h1, jxs_g _ _ _ _ _ h2, hf1 g' h1 h2]⟩
                · have hext : ∀ j, j < i → jup row d (tr d) j = row j := fun j hj => if_neg (by omega)
                  rw [jfp_ext hext]
                  show jfp h k i (if i = d then tr d else row i) row
                  by_cases z : i = d
                  · subst z; rw [if_pos rfl]; exact jd_iff.mp h53
                  · rw [if_neg z]; exact hfp i (by omega)
                · have hin := jdf_in (tr' := fun _ => 0) hdf (row' := jup row d (tr d)) (fun i hi => if_neg (by omega)) (if_pos rfl) (fun r _ => Nat.zero_le _)
                  rw [show d + 1 = n by omega] at hin
                  exact jdf_least hin r hr
            · have _b68 := True.intro
              refine j_iload_n X (q := 72) d_M_tryRows_71 rfl rfl ?_
              refine j_iconst X (v := (nI 1)) (q := 73) d_M_tryRows_72 (by decide +kernel) rfl ?_
              refine j_iadd X (q := 74) d_M_tryRows_73 rfl ?_
              refine j_istore_n X (j := 3) (q := 75) d_M_tryRows_74 rfl (Nat.le_of_ble_eq_true rfl) rfl ?_
              refine j_aload_n X (q := 76) d_M_tryRows_75 rfl rfl ?_
              refine j_getR X (C := jR5) (T := jT5) (N := 18) (ci := 5) (j := 15) (q := 79) d_M_tryRows_76 ju5 rfl rfl rfl (by decide) wl498 rfl (hC _ _ (by decide)) rfl ?_
              refine j_iload_n X (q := 80) d_M_tryRows_79 rfl rfl ?_
              refine j_iconst X (v := (nI 0)) (q := 81) d_M_tryRows_80 (by decide +kernel) rfl ?_
              refine j_iast X (j := d + 1) (q := 82) d_M_tryRows_81 rfl (by decide) (nI_add d 1) (by omega) (hC _ _ (by decide)) rfl ?_
              refine j_goto X (tgt := 96) d_M_tryRows_82 (by decide) ?_
              refine j_goto X (tgt := 9) d_M_tryRows_96 (by decide) ?_
              refine jxW.to (L' := [some (.inr (40, 0)), some (.inl (nI k)), some (.inl (nI n)), some (.inl (vI (jprd (d + 1 + 1)))), none]) (by simp [jfg]; exact nI_add d 1) ?_
              refine ih (d + 1 + 1) _ (jup row d (tr d)) (jup (jup tr d (tr d + 1)) (d + 1) 0) (Nat.lt_of_lt_of_le (Nat.add_lt_add_right (jmu_in (fun i hi => by show (if i = d + 1 then 0 else if i = d then tr d + 1 else tr i) = tr i; rw [if_neg (by omega), if_neg (by omega)]) (by show (if d = d + 1 then 0 else if d = d then tr d + 1 else tr d) = _; rw [if_neg (by omega), if_pos rfl]) (by omega) (by omega)) 1) (Nat.le_of_lt_succ hn)) ⟨fun g' h1 h2 => by rw [jxs_g _ _ _ _ _ h2, jxs_g _ _ _ _ _ h1, jxs_g _ _ _ _ _ h2, hf1 g' h1 h2], by omega, fun i hi => ?_, fun i hi => ?_, fun i hi => ?_, fun i hi => ?_, by show (if d + 1 = d + 1 then 0 else _) ≤ 8; rw [if_pos rfl]; omega, jdf_in hdf (fun i hi => if_neg (by omega)) (if_pos rfl) (fun r hr => by show (if d + 1 = d + 1 then 0 else _) ≤ _; rw [if_pos rfl]; omega)⟩
              · show (if i = d then tr d else row i) < 8 ∧ _ = nI (if i = d then tr d else row i)
                rw [jxs_g _ _ _ _ _ (by decide), jxs_at]
                by_cases z : i = d
                · subst z; rw [if_pos rfl, if_pos ⟨rfl, rfl, rfl⟩]; exact ⟨by omega, rfl⟩
                · rw [if_neg z, if_neg (fun q => z q.2.2), jxs_g _ _ _ _ _ (by decide)]; exact hro i (by omega)
              · have hext : ∀ j, j < i → jup row d (tr d) j = row j := fun j hj => if_neg (by omega)
                rw [jfp_ext hext]
                show jfp h k i (if i = d then tr d else row i) row
                by_cases z : i = d
                · subst z; rw [if_pos rfl]; exact jd_iff.mp h53
                · rw [if_neg z]; exact hfp i (by omega)
              · show _ = nI (if i = d + 1 then 0 else if i = d then tr d + 1 else tr i)
                rw [jxs_at]
                by_cases z : i = d + 1
                · subst z; rw [if_pos ⟨rfl, rfl, rfl⟩, if_pos rfl]
                · rw [if_neg (fun q => z q.2.2), if_neg z, jxs_g _ _ _ _ _ (by decide), jxs_at]
                  by_cases z2 : i = d
                  · subst z2; rw [if_pos ⟨rfl, rfl, rfl⟩, if_pos rfl, nI_add]
                  · rw [if_neg (fun q => z2 q.2.2), if_neg z2]; exact htv i (by omega)
              · show (if i = d + 1 then 0 else if i = d then tr d + 1 else tr i) = (if i = d then tr d else row i) + 1
                rw [if_neg (by omega)]
                by_cases z : i = d
                · rw [if_pos z, if_pos z]
                · rw [if_neg z, if_neg z]; exact htr i (by omega)
        · have _b35 := True.intro
          refine j_iload_n X (q := 39) d_M_tryRows_38 rfl rfl ?_
          refine j_iconst X (v := (nI 1)) (q := 40) d_M_tryRows_39 (by decide +kernel) rfl ?_
          refine j_isub X (q := 41) d_M_tryRows_40 rfl ?_
          refine j_istore_n X (j := 3) (q := 42) d_M_tryRows_41 rfl (Nat.le_of_ble_eq_true rfl) rfl ?_
          refine j_goto X (tgt := 96) d_M_tryRows_42 (by decide) ?_
          refine j_goto X (tgt := 9) d_M_tryRows_96 (by decide) ?_
          refine jxW.to (L' := [some (.inr (40, 0)), some (.inl (nI k)), some (.inl (nI n)), some (.inl (vI (jprd d))), none]) (by simp [jfg]; exact j_prd d) ?_
          cases d with
          | zero =>
            exact ih 0 _ row tr (by have h0 : jmu n tr 0 + 1 < N + 1 := hn; show 0 < N; omega) ⟨fun g' h1 h2 => by rw [jxs_g _ _ _ _ _ h2, hf1 g' h1 h2], jdf_none hdf (fun r hr => by rw [h35]; exact hr.1.1 0 (by omega))⟩
          | succ d =>
            refine ih (d + 1) _ row tr (Nat.lt_of_lt_of_le (Nat.add_lt_add_right (jmu_out (tr' := tr) (fun i _ => rfl) (by omega)) 1) (Nat.le_of_lt_succ hn)) ⟨fun g' h1 h2 => by rw [jxs_g _ _ _ _ _ h2, hf1 g' h1 h2], by omega, fun i hi => by rw [jxs_g _ _ _ _ _ (by decide)]; exact hro i (by omega), fun i hi => hfp i (by omega), fun i hi => by rw [jxs_at, if_neg (by omega)]; exact htv i (by omega), fun i hi => htr i (by omega), by rw [htr d (by omega)]; have := (hro d (by omega)).1; omega, jdf_out hdf (fun r hr _ => by rw [h35]; exact hr.1.1 (d + 1) (by omega)) (htr d (by omega))⟩
  refine j_iconst X (v := (nI 0)) (q := 1) d_M_tryRows_0 (by decide +kernel) rfl ?_
  refine j_istore_n X (j := 3) (q := 2) d_M_tryRows_1 rfl (Nat.le_of_ble_eq_true rfl) rfl ?_
  refine j_aload_n X (q := 3) d_M_tryRows_2 rfl rfl ?_
  refine j_getR X (C := jR5) (T := jT5) (N := 18) (ci := 5) (j := 15) (q := 6) d_M_tryRows_3 ju5 rfl rfl rfl (by decide) wl498 rfl (hC _ _ (by decide)) rfl ?_
  refine j_iconst X (v := (nI 0)) (q := 7) d_M_tryRows_6 (by decide +kernel) rfl ?_
  refine j_iconst X (v := (nI 0)) (q := 8) d_M_tryRows_7 (by decide +kernel) rfl ?_
  refine j_iast X (q := 9) d_M_tryRows_8 rfl (by decide) rfl (by omega) (hC _ _ (by decide)) rfl ?_
  refine jxW.to (L' := [some (.inr (40, 0)), some (.inl (nI k)), some (.inl (nI n)), some (.inl (vI (jprd (0 + 1)))), none]) (by simp [jfg, jprd, vI]) ?_
  exact K (jmuD n (fun _ => 0) (0 + 1) + 1) (0 + 1) _ (fun _ => 0) (fun _ => 0) (by omega) (jInv_0 (by omega))
