/-! The search for serial orders: all reads taken; who may follow; what is ended. -/
def jcmt (h : jH) : Nat → Bool := fun t => decide (hyS h t = 2)
def jbfR (h : jH) (n t u : Nat) : Prop := ∃ r, r < n ∧ hyS h (hyrd h r) = 2 ∧ jbfr h (jcmt h) r t u
def jrbR (h : jH) (n w t u : Nat) : Prop := ∃ r, r < n ∧ hyS h (hyrd h r) = 2 ∧ jrbr h r w t u
def jsdR (h : jH) (n : Nat) : Prop := ∀ r, r < n → hyS h (hyrd h r) = 2 → jsdr h r
theorem jsdR_succ {h : jH} {n : Nat} (hc : hyS h (hyrd h n) = 2) : (jd (jsdR h n) && jd (jsdr h n)) = jd (jsdR h (n + 1)) := by
  rw [Bool.eq_iff_iff, Bool.and_eq_true, jd_iff, jd_iff, jd_iff]
  constructor
  · rintro ⟨h1, h2⟩ r hr hc'
    by_cases e : r = n
    · subst e; exact h2
    · exact h1 r (by omega) hc'
  · exact fun q => ⟨fun r hr hc' => q r (by omega) hc', q n (by omega) hc⟩
theorem jsdR_skip {h : jH} {n : Nat} (hc : ¬ hyS h (hyrd h n) = 2) : jd (jsdR h n) = jd (jsdR h (n + 1)) := by
  refine jd_ext ⟨fun q r hr hc' => ?_, fun q r hr hc' => q r (by omega) hc'⟩
  by_cases e : r = n
  · subst e; exact absurd hc' hc
  · exact q r (by omega) hc'
set_option maxRecDepth 100000 in
set_option maxHeartbeats 4000000 in
theorem c_S_takeReads {l : Launch} {Θ : jxT} (hI : jxI Θ) (hC : ∀ g r, r < jrwJ g → Θ.2.2.2 g r) {h : jH} {σ : jxM} (hw : jHw h) (hs : jHs h σ)  : jxMet l y_S_takeReads b_S_takeReads 3 none (jrm 5) Θ [.inr (30, 0), .inr (1, 0)] σ (fun r' σ' => r' = none ∧ jZs (jcmt h) (jbfR h (hyR h)) (jrbR h (hyR h)) (jd (jsdR h (hyR h))) σ' ∧ ∀ g', g' ≠ 30 → g' ≠ 31 → g' ≠ 33 → σ' g' = σ g') := by
  refine jxMet.of (own := "HistoryJudge$SerialSearch") hI (by decide) rfl (Nat.le_of_ble_eq_true rfl) (fun Γ X => ?_)
  show jxW Γ Θ (fun r' σ' => r' = none ∧ jZs (jcmt h) (jbfR h (hyR h)) (jrbR h (hyR h)) (jd (jsdR h (hyR h))) σ' ∧ ∀ g', g' ≠ 30 → g' ≠ 31 → g' ≠ 33 → σ' g' = σ g') 0 [some (.inr (30, 0)), some (.inr (1, 0)), none] [] σ
  have bR := jHw_R hw
  have KR : ∀ (N : Nat) (r : Nat) (σ1 : jxM), 61 - r < N → r ≤ hyR h → jZs (jcmt h) (jbfR h r) (jrbR h r) (jd (jsdR h r)) σ1 → (∀ g', g' ≠ 30 → g' ≠ 31 → g' ≠ 33 → σ1 g' = σ g') → jxW Γ Θ (fun r' σ' => r' = none ∧ jZs (jcmt h) (jbfR h (hyR h)) (jrbR h (hyR h)) (jd (jsdR h (hyR h))) σ' ∧ ∀ g', g' ≠ 30 → g' ≠ 31 → g' ≠ 33 → σ' g' = σ g') 47 [some (.inr (30, 0)), some (.inr (1, 0)), some (.inl (nI r))] [] σ1 := by
    intro N
    induction N with
    | zero => intro r σ1 hn; exact absurd hn (Nat.not_lt_zero _)
    | succ N ih =>
      intro r σ1 hn hr hz1 hf1
      have hs1 : jHs h σ1 := jHs_keep hs (fun g hg => hf1 g (by omega) (by omega) (by omega))
      refine j_iload_n X (q := 48) d_S_takeReads_47 rfl rfl ?_
      refine j_aload_n X (q := 49) d_S_takeReads_48 rfl rfl ?_
      refine j_getI X (C := jR2) (T := jT2) (N := 12) (ci := 2) (j := 8) (q := 52) d_S_takeReads_49 ju2 rfl rfl rfl (by decide) wl95 rfl (hC _ _ (by decide)) rfl (jHs_R hs1) ?_
      refine j_ncmp_ge X (tgt := 80) (q := 55) d_S_takeReads_52 (by decide) rfl (by omega) (by omega) (fun h52 => ?_) (fun h52 => ?_)
      · have _b52 := True.intro
        refine j_vret X d_S_takeReads_80 ?_
        have er : r = hyR h := by omega
        subst er
        exact ⟨rfl, hz1, hf1⟩
      · have _b52 := True.intro
        refine j_aload_n X (q := 56) d_S_takeReads_55 rfl rfl ?_
        refine j_aload_n X (q := 57) d_S_takeReads_56 rfl rfl ?_
        refine j_getR X (C := jR2) (T := jT2) (N := 12) (ci := 2) (j := 4) (q := 60) d_S_takeReads_57 ju2 rfl rfl rfl (by decide) wl83 rfl (hC _ _ (by decide)) rfl ?_
        refine j_iload_n X (q := 61) d_S_takeReads_60 rfl rfl ?_
        refine j_iald X (q := 62) d_S_takeReads_61 rfl (by decide) rfl (by omega) (hC _ _ (by decide)) rfl (jHs_rd hs1 (by omega)) ?_
        refine j_callV X (n := 1) (C := jR2) (T := jT2) (N := 12) d_S_takeReads_62 (c_H_isCommitted hI (fun g r q => hC g r (jHJ q)) hw hs1 (t := hyrd h r) (jHw_rd hw (by omega))) rfl rfl (hC _ _ (by decide)) wl301 wl210 wl211 wl37 wl212 (by decide +kernel) ⟨rfl, rfl⟩ (by decide) rfl rfl (Nat.le_of_ble_eq_true rfl) rfl (q := 65) rfl (fun r62 τ62 e62 => ?_)
        obtain ⟨rfl, rfl⟩ := e62
        refine j_bif_eq X (tgt := 74) (q := 68) d_S_takeReads_65 (by decide) rfl (fun h65 => ?_) (fun h65 => ?_)
        · have _b65 := True.intro
          refine j_iinc X (q := 77) d_S_takeReads_74 rfl (j_inc1 _) rfl ?_
          refine j_goto X (tgt := 47) d_S_takeReads_77 (by decide) ?_
          have hnc : ¬ hyS h (hyrd h r) = 2 := by simpa using h65
          exact ih (r + 1) σ1 (by omega) (by omega) (jZs_ext hz1 (fun t u _ _ => by unfold jbfR; rw [jex_succ]; exact ⟨Or.inl, fun q => q.elim id (fun z => absurd z.1 hnc)⟩) (fun w t u _ _ _ => by unfold jrbR; rw [jex_succ]; exact ⟨Or.inl, fun q => q.elim id (fun z => absurd z.1 hnc)⟩) (jsdR_skip hnc)) hf1
        · have _b65 := True.intro
          refine j_aload_n X (q := 69) d_S_takeReads_68 rfl rfl ?_
          refine j_aload_n X (q := 70) d_S_takeReads_69 rfl rfl ?_
          refine j_iload_n X (q := 71) d_S_takeReads_70 rfl rfl ?_
          refine j_callV X (n := 2) (C := jR3) (T := jT3) (N := 5) d_S_takeReads_71 (c_S_takeRead hI hC hw hs1 hz1 (r := r) (by omega)) rfl rfl (hC _ _ (by decide)) wl302 wl303 wl9 wl41 wl304 (by decide +kernel) ⟨rfl, rfl⟩ (by decide) rfl rfl (Nat.le_of_ble_eq_true rfl) rfl (q := 74) rfl (fun r71 τ71 e71 => ?_)
          obtain ⟨rfl, hz2, hf2⟩ := e71
          refine j_iinc X (q := 77) d_S_takeReads_74 rfl (j_inc1 _) rfl ?_
          refine j_goto X (tgt := 47) d_S_takeReads_77 (by decide) ?_
          have hcc : hyS h (hyrd h r) = 2 := by simpa using h65
          exact ih (r + 1) _ (by omega) (by omega) (jZs_ext hz2 (fun t u _ _ => by unfold jbfR; rw [jex_succ]; simp [hcc]) (fun w t u _ _ _ => by unfold jrbR; rw [jex_succ]; simp [hcc]) (jsdR_succ hcc)) (fun g' h1 h2 h3 => by rw [hf2 g' h1 h2 h3, hf1 g' h1 h2 h3])
  have K : ∀ (N : Nat) (t : Nat) (σ1 : jxM), 8 - t < N → t ≤ 8 → σ1 30 0 3 = bI (jcmt h) → σ1 30 0 4 = jB true → (∀ a, a < 8 → σ1 31 0 a = nI 0) → (∀ w a, w < t → a < 8 → σ1 33 w a = nI 0) → (∀ g', g' ≠ 30 → g' ≠ 31 → g' ≠ 33 → σ1 g' = σ g') → jxW Γ Θ (fun r' σ' => r' = none ∧ jZs (jcmt h) (jbfR h (hyR h)) (jrbR h (hyR h)) (jd (jsdR h (hyR h))) σ' ∧ ∀ g', g' ≠ 30 → g' ≠ 31 → g' ≠ 33 → σ' g' = σ g') 23 [some (.inr (30, 0)), some (.inr (1, 0)), some (.inl (nI t))] [] σ1 := by
    intro N
    induction N with
    | zero => intro t σ1 hn; exact absurd hn (Nat.not_lt_zero _)
    | succ N ih =>
      intro t σ1 hn ht k1 k2 k3 k4 hf1
      refine j_iload_n X (q := 24) d_S_takeReads_23 rfl rfl ?_
      refine j_bipush X (v := (nI 8)) (q := 26) d_S_takeReads_24 (by decide +kernel) rfl ?_
      refine j_ncmp_ge X (tgt := 45) (q := 29) d_S_takeReads_26 (by decide) rfl (by omega) (by omega) (fun h26 => ?_) (fun h26 => ?_)
      · have _b26 := True.intro
        refine j_iconst X (v := (nI 0)) (q := 46) d_S_takeReads_45 (by decide +kernel) rfl ?_
        refine j_istore_n X (j := 2) (q := 47) d_S_takeReads_46 rfl (Nat.le_of_ble_eq_true rfl) rfl ?_
        have et : t = 8 := by omega
        subst et
        refine jxW.to (L' := [some (.inr (30, 0)), some (.inr (1, 0)), some (.inl (nI 0))]) (by simp [jfg]) ?_
        refine KR 62 0 σ1 (by omega) (by omega) ⟨k1, by rw [k2, show jd (jsdR h 0) = true from jd_iff.mpr (fun r hr => by omega)], fun a ha => ?_, fun w a hw ha => ?_⟩ hf1
        · rw [k3 a ha, bI_n0]; exact bI_ext (fun u _ => (jd_no.mpr (fun ⟨r, hr, _⟩ => by omega)).symm)
        · rw [k4 w a hw ha, bI_n0]; exact bI_ext (fun u _ => (jd_no.mpr (fun ⟨r, hr, _⟩ => by omega)).symm)
      · have _b26 := True.intro
        refine j_aload_n X (q := 30) d_S_takeReads_29 rfl rfl ?_
        refine j_getR X (C := jR3) (T := jT3) (N := 5) (ci := 3) (j := 1) (q := 33) d_S_takeReads_30 ju3 rfl rfl rfl (by decide) wl156 rfl (hC _ _ (by decide)) rfl ?_
        refine j_iload_n X (q := 34) d_S_takeReads_33 rfl rfl ?_
        refine j_aald X (q := 35) d_S_takeReads_34 rfl (by decide) rfl (by omega) (hC _ _ (by decide)) rfl ?_
        refine j_iconst X (v := (nI 0)) (q := 36) d_S_takeReads_35 (by decide +kernel) rfl ?_
        refine j_callS X (n := 2) d_S_takeReads_36 (c_A_fill hI (g := 33) (r := t) (n := 8) rfl (by decide) (hC _ _ (by show _ < 8; omega)) (nI 0) _) wl300 wl71 wl38 wl72 (by decide +kernel) ⟨rfl, rfl⟩ (by decide) rfl rfl (Nat.le_of_ble_eq_true rfl) rfl (q := 39) rfl (fun r36 τ36 e36 => ?_)
        obtain ⟨rfl, rfl⟩ := e36
        refine j_iinc X (q := 42) d_S_takeReads_39 rfl (j_inc1 _) rfl ?_
        refine j_goto X (tgt := 23) d_S_takeReads_42 (by decide) ?_
        refine ih (t + 1) _ (by omega) (by omega) (by rw [jfl_g _ _ _ _ _ (by decide)]; exact k1) (by rw [jfl_g _ _ _ _ _ (by decide)]; exact k2) (fun a ha => by rw [jfl_g _ _ _ _ _ (by decide)]; exact k3 a ha) (fun w a hw ha => ?_) (fun g' h1 h2 h3 => by rw [jfl_g _ _ _ _ _ h3, hf1 g' h1 h2 h3])
        by_cases e : w = t
        · subst e; simp [jfl, ha]
        · simp [jfl, e]; exact k4 w a (by omega) ha
  refine j_aload_n X (q := 1) d_S_takeReads_0 rfl rfl ?_
  refine j_aload_n X (q := 2) d_S_takeReads_1 rfl rfl ?_
  refine j_callV X (n := 0) (C := jR2) (T := jT2) (N := 12) d_S_takeReads_2 (c_H_committedSet hI (fun g r q => hC g r (jHJ q)) hw hs) rfl rfl (hC _ _ (by decide)) wl296 wl297 wl298 wl37 wl299 (by decide +kernel) ⟨rfl, rfl⟩ (by decide) rfl rfl (Nat.le_of_ble_eq_true rfl) rfl (q := 5) rfl (fun r2 τ2 e2 => ?_)
  obtain ⟨rfl, rfl⟩ := e2
  refine j_putI X (C := jR3) (T := jT3) (N := 5) (ci := 3) (j := 3) (q := 8) d_S_takeReads_5 ju3 rfl rfl jt3 jt3_ok jn3 rfl (by decide) wl159 rfl (hC _ _ (by decide)) rfl rfl (ty := .int) rfl rfl rfl ?_
  refine j_aload_n X (q := 9) d_S_takeReads_8 rfl rfl ?_
  refine j_iconst X (v := (nI 1)) (q := 10) d_S_takeReads_9 (by decide +kernel) rfl ?_
  refine j_putI X (C := jR3) (T := jT3) (N := 5) (ci := 3) (j := 4) (q := 13) d_S_takeReads_10 ju3 rfl rfl jt3 jt3_ok jn3 rfl (by decide) wl160 rfl (hC _ _ (by decide)) rfl rfl (ty := .boolean) rfl (by decide +kernel) (by decide +kernel) ?_
  refine j_aload_n X (q := 14) d_S_takeReads_13 rfl rfl ?_
  refine j_getR X (C := jR3) (T := jT3) (N := 5) (ci := 3) (j := 0) (q := 17) d_S_takeReads_14 ju3 rfl rfl rfl (by decide) wl155 rfl (hC _ _ (by decide)) rfl ?_
  refine j_iconst X (v := (nI 0)) (q := 18) d_S_takeReads_17 (by decide +kernel) rfl ?_
  refine j_callS X (n := 2) d_S_takeReads_18 (c_A_fill hI (g := 31) (r := 0) (n := 8) rfl (by decide) (hC _ _ (by decide)) (nI 0) _) wl300 wl71 wl38 wl72 (by decide +kernel) ⟨rfl, rfl⟩ (by decide) rfl rfl (Nat.le_of_ble_eq_true rfl) rfl (q := 21) rfl (fun r18 τ18 e18 => ?_)
  obtain ⟨rfl, rfl⟩ := e18
  refine j_iconst X (v := (nI 0)) (q := 22) d_S_takeReads_21 (by decide +kernel) rfl ?_
  refine j_istore_n X (j := 2) (q := 23) d_S_takeReads_22 rfl (Nat.le_of_ble_eq_true rfl) rfl ?_
  refine jxW.to (L' := [some (.inr (30, 0)), some (.inr (1, 0)), some (.inl (nI 0))]) (by simp [jfg]) ?_
  refine K 9 0 _ (by omega) (by omega) ?_ ?_ ?_ (fun w a hw _ => by omega) (fun g' h1 h2 h3 => ?_)
  · rw [jfl_g _ _ _ _ _ (by decide)]; simp [jxs_at]; rfl
  · rw [jfl_g _ _ _ _ _ (by decide)]; simp [jxs_at]; rfl
  · intro a ha; simp [jfl, ha]
  · rw [jfl_g _ _ _ _ _ h2, jxs_g _ _ _ _ _ h1, jxs_g _ _ _ _ _ h1]
/-- t may follow behind the set D, as the search holds it -/
def jmfc (bf : Nat → Nat → Prop) (rb : Nat → Nat → Nat → Prop) (t : Nat) (D : Nat → Bool) : Prop := (∀ u, u < 8 → bf t u → D u = true) ∧ ∀ w, w < 8 → D w = true → ∀ u, u < 8 → rb w t u → D u = true
theorem jsubI {p : Nat → Prop} {D : Nat → Bool} : bI (fun u => jd (p u)) &&& (bI D ^^^ (-1)) = 0 ↔ ∀ u, u < 8 → p u → D u = true := by
  rw [bI_andn, bI_zero]
  constructor
  · intro h u hu hp
    have := h u hu
    rw [jd_iff.mpr hp] at this
    simpa using this
  · intro h u hu
    cases e : jd (p u) with
    | false => rfl
    | true => rw [h u hu (jd_iff.mp e)]; rfl
theorem jbN_256 (D : Nat → Bool) : jbN D 8 < 256 := jbN_lt D 8
set_option maxRecDepth 100000 in
set_option maxHeartbeats 4000000 in
theorem c_S_mayFollow {l : Launch} {Θ : jxT} (hI : jxI Θ) (hC : ∀ g r, r < jrwJ g → Θ.2.2.2 g r) {σ : jxM} {C : Nat → Bool} {bf : Nat → Nat → Prop} {rb : Nat → Nat → Nat → Prop} {sd : Bool} (hz : jZs C bf rb sd σ) {t : Nat} (ht : t < 8) (D : Nat → Bool) : jxMet l y_S_mayFollow b_S_mayFollow 4 (some FieldType.boolean) (jrm 3) Θ [.inr (30, 0), .inl (nI t), .inl (bI D)] σ (jan (jB (jd (jmfc bf rb t D))) σ) := by
  refine jxMet.of (own := "HistoryJudge$SerialSearch") hI (by decide) rfl (Nat.le_of_ble_eq_true rfl) (fun Γ X => ?_)
  show jxW Γ Θ (jan (jB (jd (jmfc bf rb t D))) σ) 0 [some (.inr (30, 0)), some (.inl (nI t)), some (.inl (bI D)), none] [] σ
  have K : ∀ (N : Nat) (w : Nat), 8 - w < N → w ≤ 8 → (∀ u, u < 8 → bf t u → D u = true) → (∀ v, v < w → D v = true → ∀ u, u < 8 → rb v t u → D u = true) → jxW Γ Θ (jan (jB (jd (jmfc bf rb t D))) σ) 17 [some (.inr (30, 0)), some (.inl (nI t)), some (.inl (bI D)), some (.inl (nI w))] [] σ := by
    intro N
    induction N with
    | zero => intro w hn; exact absurd hn (Nat.not_lt_zero _)
    | succ N ih =>
      intro w hn hw e10 hno
      refine j_iload_n X (q := 18) d_S_mayFollow_17 rfl rfl ?_
      refine j_bipush X (v := (nI 8)) (q := 20) d_S_mayFollow_18 (by decide +kernel) rfl ?_
      refine j_ncmp_ge X (tgt := 54) (q := 23) d_S_mayFollow_20 (by decide) rfl (by omega) (by omega) (fun h20 => ?_) (fun h20 => ?_)
      · have _b20 := True.intro
        refine j_iconst X (v := (nI 1)) (q := 55) d_S_mayFollow_54 (by decide +kernel) rfl ?_
        refine j_zret X d_S_mayFollow_55 (by decide +kernel) ?_
        exact ⟨by rw [jd_iff.mpr ⟨e10, fun v hv hD => hno v (by omega) hD⟩]; rfl, rfl⟩
      · have _b20 := True.intro
        refine j_iload_n X (q := 24) d_S_mayFollow_23 rfl rfl ?_
        refine j_iload_n X (q := 25) d_S_mayFollow_24 rfl rfl ?_
        refine j_callSN X (n := 2) d_S_mayFollow_25 (c_J_has hI D (t := w) (by omega) σ) wl225 nl8 wl36 wl224 (by decide +kernel) ⟨rfl, rfl⟩ (by decide) rfl rfl (Nat.le_of_ble_eq_true rfl) rfl (q := 28) rfl (fun r25 τ25 e25 => ?_)
        obtain ⟨rfl, rfl⟩ := e25
        refine j_bif_eq X (tgt := 48) (q := 31) d_S_mayFollow_28 (by decide) rfl (fun h28 => ?_) (fun h28 => ?_)
        · have _b28 := True.intro
          refine j_iinc X (q := 51) d_S_mayFollow_48 rfl (j_inc1 _) rfl ?_
          refine j_goto X (tgt := 17) d_S_mayFollow_51 (by decide) ?_
          exact ih (w + 1) (by omega) (by omega) e10 (fun v hv hD => by
            by_cases q : v = w
            · subst q; rw [hD] at h28; cases h28
            · exact hno v (by omega) hD)
        · have _b28 := True.intro
          refine j_aload_n X (q := 32) d_S_mayFollow_31 rfl rfl ?_
          refine j_getR X (C := jR3) (T := jT3) (N := 5) (ci := 3) (j := 1) (q := 35) d_S_mayFollow_32 ju3 rfl rfl rfl (by decide) wl156 rfl (hC _ _ (by decide)) rfl ?_
          refine j_iload_n X (q := 36) d_S_mayFollow_35 rfl rfl ?_
          refine j_aald X (q := 37) d_S_mayFollow_36 rfl (by decide) rfl (by omega) (hC _ _ (by decide)) rfl ?_
          refine j_iload_n X (q := 38) d_S_mayFollow_37 rfl rfl ?_
          refine j_iald X (q := 39) d_S_mayFollow_38 rfl (by decide) rfl (by omega) (hC _ _ (by show _ < 8; omega)) rfl (hz.2.2.2 w t (by omega) ht) ?_
          refine j_iload_n X (q := 40) d_S_mayFollow_39 rfl rfl ?_
          refine j_iconst X (v := (-1)) (q := 41) d_S_mayFollow_40 (by decide +kernel) rfl ?_
          refine j_ixor X (q := 42) d_S_mayFollow_41 rfl ?_
          refine j_iand X (q := 43) d_S_mayFollow_42 rfl ?_
          refine j_if_eq X (tgt := 48) (q := 46) d_S_mayFollow_43 (by decide) rfl (fun h43 => ?_) (fun h43 => ?_)
          · have _b43 := True.intro
            have e43 := jsubI.mp h43
            refine j_iinc X (q := 51) d_S_mayFollow_48 rfl (j_inc1 _) rfl ?_
            refine j_goto X (tgt := 17) d_S_mayFollow_51 (by decide) ?_
            exact ih (w + 1) (by omega) (by omega) e10 (fun v hv hD => by
              by_cases q : v = w
              · subst q; exact e43
              · exact hno v (by omega) hD)
          · have _b43 := True.intro
            have e43 : ¬ ∀ u, u < 8 → rb w t u → D u = true := fun q => h43 (jsubI.mpr q)
            refine j_iconst X (v := (nI 0)) (q := 47) d_S_mayFollow_46 (by decide +kernel) rfl ?_
            refine j_zret X d_S_mayFollow_47 (by decide +kernel) ?_
            exact ⟨by rw [jd_no.mpr (fun q => e43 (q.2 w (by omega) h28))]; rfl, rfl⟩
  refine j_aload_n X (q := 1) d_S_mayFollow_0 rfl rfl ?_
  refine j_getR X (C := jR3) (T := jT3) (N := 5) (ci := 3) (j := 0) (q := 4) d_S_mayFollow_1 ju3 rfl rfl rfl (by decide) wl155 rfl (hC _ _ (by decide)) rfl ?_
  refine j_iload_n X (q := 5) d_S_mayFollow_4 rfl rfl ?_
  refine j_iald X (q := 6) d_S_mayFollow_5 rfl (by decide) rfl (by omega) (hC _ _ (by decide)) rfl (hz.2.2.1 t ht) ?_
  refine j_iload_n X (q := 7) d_S_mayFollow_6 rfl rfl ?_
  refine j_iconst X (v := (-1)) (q := 8) d_S_mayFollow_7 (by decide +kernel) rfl ?_
  refine j_ixor X (q := 9) d_S_mayFollow_8 rfl ?_
  refine j_iand X (q := 10) d_S_mayFollow_9 rfl ?_
  refine j_if_eq X (tgt := 15) (q := 13) d_S_mayFollow_10 (by decide) rfl (fun h10 => ?_) (fun h10 => ?_)
  · have _b10 := True.intro
    have e10 := jsubI.mp h10
    refine j_iconst X (v := (nI 0)) (q := 16) d_S_mayFollow_15 (by decide +kernel) rfl ?_
    refine j_istore_n X (j := 3) (q := 17) d_S_mayFollow_16 rfl (Nat.le_of_ble_eq_true rfl) rfl ?_
    exact K 9 0 (by omega) (by omega) e10 (fun w hw => by omega)
  · have _b10 := True.intro
    have e10 : ¬ ∀ u, u < 8 → bf t u → D u = true := fun q => h10 (jsubI.mpr q)
    refine j_iconst X (v := (nI 0)) (q := 14) d_S_mayFollow_13 (by decide +kernel) rfl ?_
    refine j_zret X d_S_mayFollow_14 (by decide +kernel) ?_
    exact ⟨by rw [jd_no.mpr (fun q => e10 q.1)]; rfl, rfl⟩
set_option maxRecDepth 100000 in
set_option maxHeartbeats 4000000 in
theorem c_S_canBeEnded {l : Launch} {Θ : jxT} (hI : jxI Θ) (hC : ∀ g r, r < jrwJ g → Θ.2.2.2 g r) {σ : jxM} {C : Nat → Bool} {bf : Nat → Nat → Prop} {rb : Nat → Nat → Nat → Prop} {sd : Bool} (hz : jZs C bf rb sd σ) (D : Nat → Bool) : jxMet l y_S_canBeEnded b_S_canBeEnded 2 (some FieldType.boolean) (jrm 1) Θ [.inr (30, 0), .inl (bI D)] σ (jan (jB (jd ((∀ i, i < 8 → D i = C i) ∨ σ 34 0 (jbN D 8) ≠ 0))) σ) := by
  refine jxMet.of (own := "HistoryJudge$SerialSearch") hI (by decide) rfl (Nat.le_of_ble_eq_true rfl) (fun Γ X => ?_)
  show jxW Γ Θ (jan (jB (jd ((∀ i, i < 8 → D i = C i) ∨ σ 34 0 (jbN D 8) ≠ 0))) σ) 0 [some (.inr (30, 0)), some (.inl (bI D))] [] σ
  refine j_iload_n X (q := 1) d_S_canBeEnded_0 rfl rfl ?_
  refine j_aload_n X (q := 2) d_S_canBeEnded_1 rfl rfl ?_
  refine j_getI X (C := jR3) (T := jT3) (N := 5) (ci := 3) (j := 3) (q := 5) d_S_canBeEnded_2 ju3 rfl rfl rfl (by decide) wl159 rfl (hC _ _ (by decide)) rfl hz.1 ?_
  refine j_icmp_eq X (tgt := 17) (q := 8) d_S_canBeEnded_5 (by decide) rfl (fun h5 => ?_) (fun h5 => ?_)
  · have _b5 := True.intro
    have e5 : jd ((∀ i, i < 8 → D i = C i) ∨ σ 34 0 (jbN D 8) ≠ 0) = true := jd_iff.mpr (Or.inl (bI_inj h5))
    refine j_iconst X (v := (nI 1)) (q := 18) d_S_canBeEnded_17 (by decide +kernel) rfl ?_
    refine j_goto X (tgt := 22) d_S_canBeEnded_18 (by decide) ?_
    refine j_zret X d_S_canBeEnded_22 (by decide +kernel) ?_
    exact ⟨by rw [e5]; rfl, rfl⟩
  · have _b5 := True.intro
    refine j_aload_n X (q := 9) d_S_canBeEnded_8 rfl rfl ?_
    refine j_getR X (C := jR3) (T := jT3) (N := 5) (ci := 3) (j := 2) (q := 12) d_S_canBeEnded_9 ju3 rfl rfl rfl (by decide) wl157 rfl (hC _ _ (by decide)) rfl ?_
    refine j_iload_n X (q := 13) d_S_canBeEnded_12 rfl rfl ?_
    refine j_iald X (j := jbN D 8) (q := 14) d_S_canBeEnded_13 rfl (by decide) rfl (jbN_256 D) (hC _ _ (by decide)) rfl rfl ?_
    refine j_if_eq X (tgt := 21) (q := 17) d_S_canBeEnded_14 (by decide) rfl (fun h14 => ?_) (fun h14 => ?_)
    · have _b14 := True.intro
      have e5 : jd ((∀ i, i < 8 → D i = C i) ∨ σ 34 0 (jbN D 8) ≠ 0) = false := jd_no.mpr (fun q => q.elim (fun z => h5 (bI_ext z)) (fun z => z h14))
      refine j_iconst X (v := (nI 0)) (q := 22) d_S_canBeEnded_21 (by decide +kernel) rfl ?_
      refine j_zret X d_S_canBeEnded_22 (by decide +kernel) ?_
      exact ⟨by rw [e5]; rfl, rfl⟩
    · have _b14 := True.intro
      have e5 : jd ((∀ i, i < 8 → D i = C i) ∨ σ 34 0 (jbN D 8) ≠ 0) = true := jd_iff.mpr (Or.inr h14)
      refine j_iconst X (v := (nI 1)) (q := 18) d_S_canBeEnded_17 (by decide +kernel) rfl ?_
      refine j_goto X (tgt := 22) d_S_canBeEnded_18 (by decide) ?_
      refine j_zret X d_S_canBeEnded_22 (by decide +kernel) ?_
      exact ⟨by rw [e5]; rfl, rfl⟩
/-- t follows the set D, by what is known of greater sets -/
noncomputable def jfo (C : Nat → Bool) (bf : Nat → Nat → Prop) (rb : Nat → Nat → Nat → Prop) (σ : jxM) (D : Nat → Bool) (t : Nat) : Bool := ((C t && !(D t)) && jd (jmfc bf rb t D)) && jd ((∀ i, i < 8 → jad D t i = C i) ∨ σ 34 0 (jbN (jad D t) 8) ≠ 0)
set_option maxRecDepth 100000 in
set_option maxHeartbeats 4000000 in
theorem c_S_followers {l : Launch} {Θ : jxT} (hI : jxI Θ) (hC : ∀ g r, r < jrwJ g → Θ.2.2.2 g r) {σ : jxM} {C : Nat → Bool} {bf : Nat → Nat → Prop} {rb : Nat → Nat → Nat → Prop} {sd : Bool} (hz : jZs C bf rb sd σ) (D : Nat → Bool) : jxMet l y_S_followers b_S_followers 5 (some FieldType.int) (jrm 4) Θ [.inr (30, 0), .inl (bI D)] σ (jan (bI (jfo C bf rb σ D)) σ) := by
  refine jxMet.of (own := "HistoryJudge$SerialSearch") hI (by decide) rfl (Nat.le_of_ble_eq_true rfl) (fun Γ X => ?_)
  show jxW Γ Θ (jan (bI (jfo C bf rb σ D)) σ) 0 [some (.inr (30, 0)), some (.inl (bI D)), none, none, none] [] σ
  have K : ∀ (N : Nat) (t : Nat), 8 - t < N → t ≤ 8 → jxW Γ Θ (jan (bI (jfo C bf rb σ D)) σ) 4 [some (.inr (30, 0)), some (.inl (bI D)), some (.inl (bI (fun i => decide (i < t) && jfo C bf rb σ D i))), some (.inl (nI (t))), none] [] σ := by
    intro N
    induction N with
    | zero => intro t hn; exact absurd hn (Nat.not_lt_zero _)
    | succ N ih =>
      intro t hn ht
      refine j_iload_n X (q := 5) d_S_followers_4 rfl rfl ?_
      refine j_bipush X (v := (nI 8)) (q := 7) d_S_followers_5 (by decide +kernel) rfl ?_
      refine j_ncmp_ge X (tgt := 76) (q := 10) d_S_followers_7 (by decide) rfl (by omega) (by omega) (fun h7 => ?_) (fun h7 => ?_)
      · have _b7 := True.intro
        refine j_iload_n X (q := 77) d_S_followers_76 rfl rfl ?_
        refine j_iret X d_S_followers_77 ?_
        have et : t = 8 := by omega
        subst et
        exact ⟨by rw [bI_ext (S := fun i => decide (i < 8) && jfo C bf rb σ D i) (T := jfo C bf rb σ D) (fun i hi => by simp [hi])], rfl⟩
      · have _b7 := True.intro
        have J34 : jxW Γ Θ (jan (bI (jfo C bf rb σ D)) σ) 34 [some (.inr (30, 0)), some (.inl (bI D)), some (.inl (bI (fun i => decide (i < t) && jfo C bf rb σ D i))), some (.inl (nI t)), none] [.inl (jB (C t && !(D t)))] σ := by
          refine j_istore X (q := 36) d_S_followers_34 (Nat.le_of_ble_eq_true rfl) rfl ?_
          refine j_iload X (q := 38) d_S_followers_36 rfl rfl ?_
          refine j_bif_eq X (tgt := 70) (q := 41) d_S_followers_38 (by decide) rfl (fun h38 => ?_) (fun h38 => ?_)
          · have _b38 := True.intro
            refine j_iinc X (q := 73) d_S_followers_70 rfl (j_inc1 _) rfl ?_
            refine j_goto X (tgt := 4) d_S_followers_73 (by decide) ?_
            have ef : jfo C bf rb σ D t = false := by unfold jfo; rw [h38]; rfl
            have e : bI (fun i => decide (i < t) && jfo C bf rb σ D i) = bI (fun i => decide (i < t + 1) && jfo C bf rb σ D i) := bI_ext (fun i hi => by
              by_cases q : i = t
              · subst q; simp [ef]
              · rw [jlt_succ q])
            refine jxW.to (L' := [some (.inr (30, 0)), some (.inl (bI D)), some (.inl (bI (fun i => decide (i < t + 1) && jfo C bf rb σ D i))), some (.inl (nI (t + 1))), none]) (by simp [jfg, e]) ?_
            exact ih (t + 1) (by omega) (by omega)
          · have _b38 := True.intro
            refine j_aload_n X (q := 42) d_S_followers_41 rfl rfl ?_
            refine j_iload_n X (q := 43) d_S_followers_42 rfl rfl ?_
            refine j_iload_n X (q := 44) d_S_followers_43 rfl rfl ?_
            refine j_callV X (n := 2) (C := jR3) (T := jT3) (N := 5) d_S_followers_44 (c_S_mayFollow hI hC hz (t := t) (by omega) D) rfl rfl (hC _ _ (by decide)) wl319 wl320 wl13 wl41 wl321 (by decide +kernel) ⟨rfl, rfl⟩ (by decide) rfl rfl (Nat.le_of_ble_eq_true rfl) rfl (q := 47) rfl (fun r44 τ44 e44 => ?_)
            obtain ⟨rfl, rfl⟩ := e44
            refine j_bif_eq X (tgt := 70) (q := 50) d_S_followers_47 (by decide) rfl (fun h47 => ?_) (fun h47 => ?_)
            · have _b47 := True.intro
              refine j_iinc X (q := 73) d_S_followers_70 rfl (j_inc1 _) rfl ?_
              refine j_goto X (tgt := 4) d_S_followers_73 (by decide) ?_
              have ef : jfo C bf rb σ D t = false := by unfold jfo; rw [h38, h47]; rfl
              have e : bI (fun i => decide (i < t) && jfo C bf rb σ D i) = bI (fun i => decide (i < t + 1) && jfo C bf rb σ D i) := bI_ext (fun i hi => by
                by_cases q : i = t
                · subst q; simp [ef]
                · rw [jlt_succ q])
              refine jxW.to (L' := [some (.inr (30, 0)), some (.inl (bI D)), some (.inl (bI (fun i => decide (i < t + 1) && jfo C bf rb σ D i))), some (.inl (nI (t + 1))), none]) (by simp [jfg, e]) ?_
              exact ih (t + 1) (by omega) (by omega)
            · have _b47 := True.intro
              refine j_aload_n X (q := 51) d_S_followers_50 rfl rfl ?_
              refine j_iload_n X (q := 52) d_S_followers_51 rfl rfl ?_
              refine j_iload_n X (q := 53) d_S_followers_52 rfl rfl ?_
              refine j_callSN X (n := 1) d_S_followers_53 (c_J_only hI (t := t) (by omega) σ) wl208 nl9 wl36 wl207 (by decide +kernel) ⟨rfl, rfl⟩ (by decide) rfl rfl (Nat.le_of_ble_eq_true rfl) rfl (q := 56) rfl (fun r53 τ53 e53 => ?_)
              obtain ⟨rfl, rfl⟩ := e53
              refine j_ior X (q := 57) d_S_followers_56 rfl ?_
              refine jxW.cast rfl (show _ = [.inl (bI (jad D t)), .inr (30, 0)] by rw [bI_or]; rfl) rfl ?_
              refine j_callV X (n := 1) (C := jR3) (T := jT3) (N := 5) d_S_followers_57 (c_S_canBeEnded hI hC hz (jad D t)) rfl rfl (hC _ _ (by decide)) wl322 wl323 wl14 wl41 wl324 (by decide +kernel) ⟨rfl, rfl⟩ (by decide) rfl rfl (Nat.le_of_ble_eq_true rfl) rfl (q := 60) rfl (fun r57 τ57 e57 => ?_)
              obtain ⟨rfl, rfl⟩ := e57
              refine j_bif_eq X (tgt := 70) (q := 63) d_S_followers_60 (by decide) rfl (fun h60 => ?_) (fun h60 => ?_)
              · have _b60 := True.intro
                refine j_iinc X (q := 73) d_S_followers_70 rfl (j_inc1 _) rfl ?_
                refine j_goto X (tgt := 4) d_S_followers_73 (by decide) ?_
                have ef : jfo C bf rb σ D t = false := by unfold jfo; rw [h38, h47, h60]; rfl
                have e : bI (fun i => decide (i < t) && jfo C bf rb σ D i) = bI (fun i => decide (i < t + 1) && jfo C bf rb σ D i) := bI_ext (fun i hi => by
                  by_cases q : i = t
                  · subst q; simp [ef]
                  · rw [jlt_succ q])
                refine jxW.to (L' := [some (.inr (30, 0)), some (.inl (bI D)), some (.inl (bI (fun i => decide (i < t + 1) && jfo C bf rb σ D i))), some (.inl (nI (t + 1))), none]) (by simp [jfg, e]) ?_
                exact ih (t + 1) (by omega) (by omega)
              · have _b60 := True.intro
                refine j_iload_n X (q := 64) d_S_followers_63 rfl rfl ?_
                refine j_iload_n X (q := 65) d_S_followers_64 rfl rfl ?_
                refine j_callSN X (n := 1) d_S_followers_65 (c_J_only hI (t := t) (by omega) σ) wl208 nl9 wl36 wl207 (by decide +kernel) ⟨rfl, rfl⟩ (by decide) rfl rfl (Nat.le_of_ble_eq_true rfl) rfl (q := 68) rfl (fun r65 τ65 e65 => ?_)
                obtain ⟨rfl, rfl⟩ := e65
                refine j_ior X (q := 69) d_S_followers_68 rfl ?_
                refine j_istore_n X (j := 2) (q := 70) d_S_followers_69 rfl (Nat.le_of_ble_eq_true rfl) rfl ?_
                refine j_iinc X (q := 73) d_S_followers_70 rfl (j_inc1 _) rfl ?_
                refine j_goto X (tgt := 4) d_S_followers_73 (by decide) ?_
                have ef : jfo C bf rb σ D t = true := by unfold jfo; rw [h38, h47, h60]; rfl
                have e : bI (fun i => decide (i < t) && jfo C bf rb σ D i) ||| bI (fun i => decide (i = t)) = bI (fun i => decide (i < t + 1) && jfo C bf rb σ D i) := by
                  rw [bI_or]
                  exact bI_ext (fun i hi => by
                    by_cases q : i = t
                    · subst q; simp [ef]
                    · rw [jlt_succ q]; simp [q])
                refine jxW.to (L' := [some (.inr (30, 0)), some (.inl (bI D)), some (.inl (bI (fun i => decide (i < t + 1) && jfo C bf rb σ D i))), some (.inl (nI (t + 1))), none]) (by simp [jfg, e]) ?_
                exact ih (t + 1) (by omega) (by omega)
        refine j_aload_n X (q := 11) d_S_followers_10 rfl rfl ?_
        refine j_getI X (C := jR3) (T := jT3) (N := 5) (ci := 3) (j := 3) (q := 14) d_S_followers_11 ju3 rfl rfl rfl (by decide) wl159 rfl (hC _ _ (by decide)) rfl hz.1 ?_
        refine j_iload_n X (q := 15) d_S_followers_14 rfl rfl ?_
        refine j_callSN X (n := 2) d_S_followers_15 (c_J_has hI C (t := t) (by omega) σ) wl225 nl8 wl36 wl224 (by decide +kernel) ⟨rfl, rfl⟩ (by decide) rfl rfl (Nat.le_of_ble_eq_true rfl) rfl (q := 18) rfl (fun r15 τ15 e15 => ?_)
        obtain ⟨rfl, rfl⟩ := e15
        refine j_bif_eq X (tgt := 33) (q := 21) d_S_followers_18 (by decide) rfl (fun h18 => ?_) (fun h18 => ?_)
        · have _b18 := True.intro
          refine j_iconst X (v := (nI 0)) (q := 34) d_S_followers_33 (by decide +kernel) rfl ?_
          refine jxW.to (L' := [some (.inr (30, 0)), some (.inl (bI D)), some (.inl (bI (fun i => decide (i < t) && jfo C bf rb σ D i))), some (.inl (nI t)), none]) (by simp [jfg]) ?_
          refine jxW.cast rfl (show _ = [.inl (jB (C t && !(D t)))] by rw [h18]; rfl) rfl ?_
          exact J34
        · have _b18 := True.intro
          refine j_iload_n X (q := 22) d_S_followers_21 rfl rfl ?_
          refine j_iload_n X (q := 23) d_S_followers_22 rfl rfl ?_
          refine j_callSN X (n := 2) d_S_followers_23 (c_J_has hI D (t := t) (by omega) σ) wl225 nl8 wl36 wl224 (by decide +kernel) ⟨rfl, rfl⟩ (by decide) rfl rfl (Nat.le_of_ble_eq_true rfl) rfl (q := 26) rfl (fun r23 τ23 e23 => ?_)
          obtain ⟨rfl, rfl⟩ := e23
          refine j_bif_ne X (tgt := 33) (q := 29) d_S_followers_26 (by decide) rfl (fun h26 => ?_) (fun h26 => ?_)
          · have _b26 := True.intro
            refine j_iconst X (v := (nI 0)) (q := 34) d_S_followers_33 (by decide +kernel) rfl ?_
            refine jxW.to (L' := [some (.inr (30, 0)), some (.inl (bI D)), some (.inl (bI (fun i => decide (i < t) && jfo C bf rb σ D i))), some (.inl (nI t)), none]) (by simp [jfg]) ?_
            refine jxW.cast rfl (show _ = [.inl (jB (C t && !(D t)))] by rw [h18, h26]; rfl) rfl ?_
            exact J34
          · have _b26 := True.intro
            refine j_iconst X (v := (nI 1)) (q := 30) d_S_followers_29 (by decide +kernel) rfl ?_
            refine j_goto X (tgt := 34) d_S_followers_30 (by decide) ?_
            refine jxW.to (L' := [some (.inr (30, 0)), some (.inl (bI D)), some (.inl (bI (fun i => decide (i < t) && jfo C bf rb σ D i))), some (.inl (nI t)), none]) (by simp [jfg]) ?_
            refine jxW.cast rfl (show _ = [.inl (jB (C t && !(D t)))] by rw [h18, h26]; rfl) rfl ?_
            exact J34
  refine j_iconst X (v := (nI 0)) (q := 1) d_S_followers_0 (by decide +kernel) rfl ?_
  refine j_istore_n X (j := 2) (q := 2) d_S_followers_1 rfl (Nat.le_of_ble_eq_true rfl) rfl ?_
  refine j_iconst X (v := (nI 0)) (q := 3) d_S_followers_2 (by decide +kernel) rfl ?_
  refine j_istore_n X (j := 3) (q := 4) d_S_followers_3 rfl (Nat.le_of_ble_eq_true rfl) rfl ?_
  refine jxW.to (L' := [some (.inr (30, 0)), some (.inl (bI D)), some (.inl (bI (fun i => decide (i < 0) && jfo C bf rb σ D i))), some (.inl (nI (0))), none]) (by simp [jfg, bI_n0]) ?_
  exact K 9 0 (by omega) (by omega)
