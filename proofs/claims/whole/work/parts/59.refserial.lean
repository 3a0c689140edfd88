/-! The reference: serial, place, beginnings; its orders are the class's. -/
noncomputable def jMF (h : jH) : Nat → (Nat → Bool) → Prop := jmfc (jbfR h (hyR h)) (jrbR h (hyR h))
theorem jlw_in {h : jH} {v : jV} (hv : jVc h v) {t x : Nat} : ∀ e, e ≤ evE v → ∀ w, jlw v t x e = some w → t < 8 ∧ x < 6
  | 0, _, w, q => by cases q
  | e + 1, he, w, q => by
    rw [jlw] at q
    by_cases c : evb v e = true ∧ evw v e = t ∧ evx v e = x
    · rw [← c.2.1, ← c.2.2]; exact ⟨jVc_w hv (by omega), jVc_x hv (by omega)⟩
    · rw [if_neg c] at q; exact jlw_in hv e (by omega) w q
theorem jhk_h {h : jH} {v : jV} (hw : jHw h) (hv : jVc h v) : jhk (hyR h) (hyrd h) (hyri h) (hyrv h) (hyro h) (hylt h) (hyW h) (hyI h) := by
  refine ⟨fun p hp => jHw_rd hw hp, fun p w hp q => (jHw_rv hw hp q).2, fun t x w q => ?_, fun p w hp q => (hw.2.2.2.2.1 p hp).2.2.2.2 w q⟩
  have := hv.2.2.2.1 t x
  rw [q] at this
  obtain ⟨ht, hx⟩ := jlw_in hv _ (Nat.le_refl _) w this.symm
  exact (jHw_lt hw ht hx q).2
theorem jsnd_h {h : jH} : jsnd (jcmt h) (hyR h) (hyrd h) (hyrv h) (hyro h) (hylt h) (hyW h) (hyI h) ↔ jsdR h (hyR h) := by
  unfold jsnd jsdR jsdr
  constructor
  · intro q p hp hc
    obtain ⟨a, b⟩ := q p hp (decide_eq_true hc)
    exact ⟨a, fun ho w hv => ⟨of_decide_eq_true (b ho w hv).1, (b ho w hv).2⟩⟩
  · intro q p hp hc
    obtain ⟨a, b⟩ := q p hp (of_decide_eq_true hc)
    exact ⟨a, fun ho w hv => ⟨decide_eq_true (b ho w hv).1, (b ho w hv).2⟩⟩
theorem jbf_h {h : jH} (hs : jsdR h (hyR h)) {t u : Nat} : jbf (jcmt h) (hyR h) (hyrd h) (hyri h) (hyrv h) (hyro h) (hylt h) (hyW h) t u ↔ jbfR h (hyR h) t u := by
  constructor
  · rintro ⟨p, hp, hc, ho, q⟩
    refine ⟨p, hp, of_decide_eq_true hc, ho, ?_⟩
    rcases q with ⟨a, b, c, d, e⟩ | ⟨w, a, b, c⟩
    · exact Or.inl ⟨a, c, d, e, b⟩
    · have := (hs p hp (of_decide_eq_true hc)).2 ho w a
      exact Or.inr ⟨w, a, this.1, this.2, b, c⟩
  · rintro ⟨p, hp, hc, ho, q⟩
    refine ⟨p, hp, decide_eq_true hc, ho, ?_⟩
    rcases q with ⟨a, b, c, d, e⟩ | ⟨w, a, b, c, d, e⟩
    · exact Or.inl ⟨a, e, b, c, d⟩
    · exact Or.inr ⟨w, a, d, e⟩
theorem jrb_h {h : jH} (hs : jsdR h (hyR h)) {w t u : Nat} : jrb (jcmt h) (hyR h) (hyrd h) (hyri h) (hyrv h) (hyro h) (hylt h) (hyW h) w t u ↔ jrbR h (hyR h) w t u := by
  constructor
  · rintro ⟨p, x, hp, hc, ho, a, b, c, d, e, f⟩
    have := (hs p hp (of_decide_eq_true hc)).2 ho x a
    exact ⟨p, hp, of_decide_eq_true hc, ho, x, a, this.1, this.2, c, d, e, f, b⟩
  · rintro ⟨p, hp, hc, ho, x, a, b, c, d, e, f, g, i⟩
    exact ⟨p, x, hp, decide_eq_true hc, ho, a, i, d, e, f, g⟩
theorem jmf_h {h : jH} (hw : jHw h) (hs : jsdR h (hyR h)) {t : Nat} {r : Nat → Nat} {i : Nat} (h8 : ∀ j, j < i → r j < 8) : jmf (jcmt h) (hyR h) (hyrd h) (hyri h) (hyrv h) (hyro h) (hylt h) (hyW h) t (fun u => ∃ j, j < i ∧ r j = u) ↔ jMF h t (jst r i) := by
  unfold jmf jMF jmfc
  constructor
  · rintro ⟨a, b⟩
    exact ⟨fun u _ q => jst_iff.mpr (a u ((jbf_h hs).mpr q)), fun w _ hw u _ q => jst_iff.mpr (b w (jst_iff.mp hw) u ((jrb_h hs).mpr q))⟩
  · rintro ⟨a, b⟩
    refine ⟨fun u q => jst_iff.mp (a u ?_ ((jbf_h hs).mp q)), fun w hw1 u q => jst_iff.mp (b w ?_ (jst_iff.mpr hw1) u ?_ ((jrb_h hs).mp q))⟩
    · obtain ⟨p, hp, -, -, q⟩ := q
      rcases q with ⟨-, rfl, -⟩ | ⟨w, q1, -, rfl⟩
      · exact jHw_rd hw hp
      · exact jHw_W hw (jHw_rv hw hp q1).1
    · obtain ⟨j, hj, rfl⟩ := hw1; exact h8 j hj
    · obtain ⟨p, x, hp, -, -, -, rfl, -⟩ := q; exact jHw_rd hw hp
/-- the reference's orders are those that the sets allow -/
theorem jVo_iff {h : jH} {v : jV} (hw : jHw h) (hv : jVc h v) {a b n : Nat} {r : Nat → Nat} : jVo h a b n r ↔ (jsdR h (hyR h) ∧ jor (jcmt h) (jMF h) n r) ∧ a ≤ r 0 ∧ r 0 ≤ b := by
  constructor
  · rintro ⟨hp, hr, hab⟩
    obtain ⟨s, m⟩ := jser_to (jhk_h hw hv) hp hr
    have s' := jsnd_h.mp s
    exact ⟨⟨s', hp, fun i hi => (jmf_h hw s' (fun j hj => (hp.1 j (by omega)).1)).mp (m i hi)⟩, hab⟩
  · rintro ⟨⟨s, hp, m⟩, hab⟩
    exact ⟨hp, jser_of (jhk_h hw hv) hp (jsnd_h.mpr s) (fun i hi => (jmf_h hw s (fun j hj => (hp.1 j (by omega)).1)).mpr (m i hi)), hab⟩
/-- whether there is one -/
theorem jVo_ser {h : jH} {v : jV} (hw : jHw h) (hv : jVc h v) : jd (∃ r, jVo h 0 7 (jct (jcmt h)) r) = (jd (jsdR h (hyR h)) && jd (jce (jcmt h) (jMF h) (fun _ => false))) := by
  rw [Bool.eq_iff_iff, Bool.and_eq_true, jd_iff, jd_iff, jd_iff]
  constructor
  · rintro ⟨r, q⟩
    obtain ⟨⟨s, o⟩, -⟩ := (jVo_iff hw hv).mp q
    exact ⟨s, jor_ce o _ 0 (Nat.zero_add _)⟩
  · rintro ⟨s, c⟩
    obtain ⟨n, r, o⟩ := jce_or c
    have en := jpm_len o.1
    subst en
    by_cases z : jct (jcmt h) = 0
    · refine ⟨fun _ => 0, (jVo_iff hw hv).mpr ⟨⟨s, ?_⟩, Nat.le_refl _, by omega⟩⟩
      refine ⟨⟨fun i hi => by omega, fun i j hi => by omega, fun t ht hc => ?_⟩, fun i hi => by omega⟩
      obtain ⟨i, hi, -⟩ := o.1.2.2 t ht hc
      omega
    · have := (o.1.1 0 (by omega)).1
      exact ⟨r, (jVo_iff hw hv).mpr ⟨⟨s, o⟩, Nat.zero_le _, by omega⟩⟩
theorem jct_ext {C D : Nat → Bool} (h : ∀ i, i < 8 → C i = D i) : jct C = jct D := by rw [← jcf_ct, ← jcf_ct, jcf_ext 8 h]
/-- who may begin -/
theorem jVo_beg {h : jH} {v : jV} (hw : jHw h) (hv : jVc h v) : jct (fun t => jcmt h t && jd (∃ r, jVo h t t (jct (jcmt h)) r)) = jct (jnS (jcmt h) (jbfR h (hyR h)) (jrbR h (hyR h)) (jd (jsdR h (hyR h))) 0) := by
  have e0 : jtb 0 = fun _ => false := by funext i; unfold jtb; exact Nat.zero_testBit i
  refine jct_ext (fun t ht => ?_)
  unfold jnS
  rw [e0, Bool.eq_iff_iff, Bool.and_eq_true, Bool.and_eq_true, Bool.and_eq_true, jd_iff, jd_iff, jd_iff, jd_iff]
  constructor
  · rintro ⟨c, r, q⟩
    obtain ⟨⟨s, o⟩, q1, q2⟩ := (jVo_iff hw hv).mp q
    obtain ⟨i, hi, -⟩ := o.1.2.2 t ht c
    have nf := jor_nf o (i := 0) (by omega)
    rw [show r 0 = t by omega] at nf
    exact ⟨⟨s, fun i hi q => by cases q⟩, nf⟩
  · rintro ⟨⟨s, -⟩, n1, n2, n3, n4, l, n5⟩
    refine ⟨n2, ?_⟩
    have i0 : ∀ i, i < 1 → i = 0 := fun i hi => by omega
    obtain ⟨n, r, o, -, -, e, -⟩ := jvs_or (C := jcmt h) (mf := jMF h) l (fun _ => t) 1 (fun i _ => ⟨n1, n2⟩) (fun i j hi hj _ => by omega) (fun i hi => by rw [i0 i hi]; exact n4) n5
    have en := jpm_len o.1
    subst en
    have := e 0 (by omega)
    exact ⟨r, (jVo_iff hw hv).mpr ⟨⟨s, o⟩, by omega, by omega⟩⟩
theorem jfm_o {σ τ : jxM} (h : ∀ g', g' ≠ 40 → g' ≠ 51 → g' ≠ 52 → g' ≠ 53 → τ g' = σ g') (h' : ∀ j, j ≠ 16 → τ 40 0 j = σ 40 0 j) : jfm σ τ := ⟨fun g h1 h2 => h g h1 (by omega) (by omega) (by omega), fun j _ h2 => h' j h2⟩
set_option maxRecDepth 100000 in
set_option maxHeartbeats 4000000 in
theorem c_M_serial {l : Launch} {Θ : jxT} (hI : jxI Θ) (hC : ∀ g r, r < jrwM g → Θ.2.2.2 g r) {h : jH} {v : jV} {σ : jxM} (hw : jHw h) (hv : jVc h v) (hm : jMs h v σ)  : jxMet l y_M_serial b_M_serial 1 (some FieldType.boolean) (jrm 4) Θ [.inr (40, 0)] σ (fun r' σ' => r' = some (.inl (jB (jd (∃ r, jVo h 0 7 (jct (jcmt h)) r)))) ∧ jfm σ σ') := by
  refine jxMet.of (own := "HistoryJudgeModel") hI (by decide) rfl (Nat.le_of_ble_eq_true rfl) (fun Γ X => ?_)
  show jxW Γ Θ (fun r' σ' => r' = some (.inl (jB (jd (∃ r, jVo h 0 7 (jct (jcmt h)) r)))) ∧ jfm σ σ') 0 [some (.inr (40, 0))] [] σ
  refine j_aload_n X (q := 1) d_M_serial_0 rfl rfl ?_
  refine j_iconst X (v := (nI 0)) (q := 2) d_M_serial_1 (by decide +kernel) rfl ?_
  refine j_putI X (C := jR5) (T := jT5) (N := 18) (ci := 5) (j := 0) (q := 5) d_M_serial_2 ju5 rfl rfl jt5 jt5_ok jn5 rfl (by decide) wl483 rfl (hC _ _ (by decide)) rfl rfl (ty := .int) rfl rfl rfl ?_
  refine j_aload_n X (q := 6) d_M_serial_5 rfl rfl ?_
  refine j_iconst X (v := (nI 0)) (q := 7) d_M_serial_6 (by decide +kernel) rfl ?_
  refine j_bipush X (v := (nI 7)) (q := 9) d_M_serial_7 (by decide +kernel) rfl ?_
  refine j_callV X (n := 2) (C := jR5) (T := jT5) (N := 18) d_M_serial_9 (c_M_tryOrders hI hC hw hv (jMs_keep hm jfm_c) (a := 0) (b := 7) (by omega) (by omega)) rfl rfl (hC _ _ (by decide)) wl636 wl637 wl32 wl42 wl638 (by decide +kernel) ⟨rfl, rfl⟩ (by decide) rfl rfl (Nat.le_of_ble_eq_true rfl) rfl (q := 12) rfl (fun r9 τ9 e9 => ?_)
  obtain ⟨⟨z, rfl, hz0, hz1⟩, hsz, hf1, hf2⟩ := e9
  refine j_zret X d_M_serial_12 (jB_narrow _) ?_
  refine ⟨?_, jfm_tr jfm_c (jfm_o hf1 hf2)⟩
  cases z with
  | false => rw [jd_no.mpr (fun ⟨r, q⟩ => hz0 rfl r q)]
  | true => obtain ⟨row, -, q, -⟩ := hz1 rfl; rw [jd_iff.mpr ⟨row, q⟩]
set_option maxRecDepth 100000 in
set_option maxHeartbeats 4000000 in
theorem c_M_place {l : Launch} {Θ : jxT} (hI : jxI Θ) (hC : ∀ g r, r < jrwM g → Θ.2.2.2 g r) {h : jH} {v : jV} {σ : jxM} (hw : jHw h) (hv : jVc h v) (hm : jMs h v σ) (x : Int32) : jxMet l y_M_place b_M_place 3 (some FieldType.int) (jrm 4) Θ [.inr (40, 0), .inl x] σ (fun r' σ' => (∃ y, r' = some (.inl y) ∧ (jd (∃ r, jVo h 0 7 (jct (jcmt h)) r) = false ∨ jin x (jct (jcmt h)) = false → y = -1) ∧ (jd (∃ r, jVo h 0 7 (jct (jcmt h)) r) = true → ∀ k, k < jct (jcmt h) → x = nI k → ∃ row, jVo h 0 7 (jct (jcmt h)) row ∧ (∀ r, jVo h 0 7 (jct (jcmt h)) r → jlx (jct (jcmt h)) row r) ∧ y = nI (row k))) ∧ jfm σ σ') := by
  refine jxMet.of (own := "HistoryJudgeModel") hI (by decide) rfl (Nat.le_of_ble_eq_true rfl) (fun Γ X => ?_)
  show jxW Γ Θ (fun r' σ' => (∃ y, r' = some (.inl y) ∧ (jd (∃ r, jVo h 0 7 (jct (jcmt h)) r) = false ∨ jin x (jct (jcmt h)) = false → y = -1) ∧ (jd (∃ r, jVo h 0 7 (jct (jcmt h)) r) = true → ∀ k, k < jct (jcmt h) → x = nI k → ∃ row, jVo h 0 7 (jct (jcmt h)) row ∧ (∀ r, jVo h 0 7 (jct (jcmt h)) r → jlx (jct (jcmt h)) row r) ∧ y = nI (row k))) ∧ jfm σ σ') 0 [some (.inr (40, 0)), some (.inl x), none] [] σ
  have hn8 := jct_le (jcmt h)
  refine j_aload_n X (q := 1) d_M_place_0 rfl rfl ?_
  refine j_iconst X (v := (nI 0)) (q := 2) d_M_place_1 (by decide +kernel) rfl ?_
  refine j_putI X (C := jR5) (T := jT5) (N := 18) (ci := 5) (j := 0) (q := 5) d_M_place_2 ju5 rfl rfl jt5 jt5_ok jn5 rfl (by decide) wl483 rfl (hC _ _ (by decide)) rfl rfl (ty := .int) rfl rfl rfl ?_
  refine j_aload_n X (q := 6) d_M_place_5 rfl rfl ?_
  refine j_iconst X (v := (nI 0)) (q := 7) d_M_place_6 (by decide +kernel) rfl ?_
  refine j_bipush X (v := (nI 7)) (q := 9) d_M_place_7 (by decide +kernel) rfl ?_
  refine j_callV X (n := 2) (C := jR5) (T := jT5) (N := 18) d_M_place_9 (c_M_tryOrders hI hC hw hv (jMs_keep hm jfm_c) (a := 0) (b := 7) (by omega) (by omega)) rfl rfl (hC _ _ (by decide)) wl636 wl637 wl32 wl42 wl638 (by decide +kernel) ⟨rfl, rfl⟩ (by decide) rfl rfl (Nat.le_of_ble_eq_true rfl) rfl (q := 12) rfl (fun r9 τ9 e9 => ?_)
  obtain ⟨⟨z, rfl, hz0, hz1⟩, hsz, hf1, hf2⟩ := e9
  refine j_istore_n X (j := 2) (q := 13) d_M_place_12 rfl (Nat.le_of_ble_eq_true rfl) rfl ?_
  refine j_iload_n X (q := 14) d_M_place_13 rfl rfl ?_
  refine j_bif_eq X (tgt := 38) (q := 17) d_M_place_14 (by decide) rfl (fun h14 => ?_) (fun h14 => ?_)
  · have _b14 := True.intro
    refine j_iconst X (v := (-1)) (q := 39) d_M_place_38 (by decide +kernel) rfl ?_
    refine j_iret X d_M_place_39 ?_
    exact ⟨⟨-1, rfl, fun _ => rfl, fun q => by obtain ⟨r, q⟩ := jd_iff.mp q; exact absurd q (hz0 h14 r)⟩, jfm_tr jfm_c (jfm_o hf1 hf2)⟩
  · have _b14 := True.intro
    refine j_iload_n X (q := 18) d_M_place_17 rfl rfl ?_
    refine j_if_lt X (tgt := 38) (q := 21) d_M_place_18 (by decide) rfl (fun h18 => ?_) (fun h18 => ?_)
    · have _b18 := True.intro
      have hin : jin x (jct (jcmt h)) = false := jin_neg h18
      refine j_iconst X (v := (-1)) (q := 39) d_M_place_38 (by decide +kernel) rfl ?_
      refine j_iret X d_M_place_39 ?_
      exact ⟨⟨-1, rfl, fun _ => rfl, fun _ k hk ek => by rw [ek, jin_nI (by omega), decide_eq_true hk] at hin; cases hin⟩, jfm_tr jfm_c (jfm_o hf1 hf2)⟩
    · have _b18 := True.intro
      refine j_iload_n X (q := 22) d_M_place_21 rfl rfl ?_
      refine j_aload_n X (q := 23) d_M_place_22 rfl rfl ?_
      refine j_getI X (C := jR5) (T := jT5) (N := 18) (ci := 5) (j := 16) (q := 26) d_M_place_23 ju5 rfl rfl rfl (by decide) wl499 rfl (hC _ _ (by decide)) rfl hsz ?_
      refine j_icmp_ge X (tgt := 38) (q := 29) d_M_place_26 (by decide) rfl (fun h26 => ?_) (fun h26 => ?_)
      · have _b26 := True.intro
        have hin : jin x (jct (jcmt h)) = false := jin_big (by omega) h26
        refine j_iconst X (v := (-1)) (q := 39) d_M_place_38 (by decide +kernel) rfl ?_
        refine j_iret X d_M_place_39 ?_
        exact ⟨⟨-1, rfl, fun _ => rfl, fun _ k hk ek => by rw [ek, jin_nI (by omega), decide_eq_true hk] at hin; cases hin⟩, jfm_tr jfm_c (jfm_o hf1 hf2)⟩
      · have _b26 := True.intro
        have hin : jin x (jct (jcmt h)) = true := jin_yes (by omega) h18 h26
        obtain ⟨k, hk, ek⟩ := jin_of hin (by omega)
        obtain ⟨row, hr, hV, hl⟩ := hz1 h14
        refine j_aload_n X (q := 30) d_M_place_29 rfl rfl ?_
        refine j_getR X (C := jR5) (T := jT5) (N := 18) (ci := 5) (j := 14) (q := 33) d_M_place_30 ju5 rfl rfl rfl (by decide) wl497 rfl (hC _ _ (by decide)) rfl ?_
        refine j_iload_n X (q := 34) d_M_place_33 rfl rfl ?_
        refine j_iald X (j := k) (q := 35) d_M_place_34 rfl (by decide) ek (by omega) (hC _ _ (by decide)) rfl rfl ?_
        refine j_goto X (tgt := 39) d_M_place_35 (by decide) ?_
        refine j_iret X d_M_place_39 ?_
        refine ⟨⟨_, rfl, fun q => q.elim (fun q => absurd ⟨row, hV⟩ (jd_no.mp q)) (fun q => by rw [hin] at q; cases q), fun _ k' hk' ek' => ⟨row, hV, hl, ?_⟩⟩, jfm_tr jfm_c (jfm_o hf1 hf2)⟩
        have ekk : k = k' := (nI_eq (by omega) (by omega)).mp (ek.symm.trans ek')
        subst ekk
        exact (hr k hk).2
set_option maxRecDepth 100000 in
set_option maxHeartbeats 4000000 in
theorem c_M_beginnings {l : Launch} {Θ : jxT} (hI : jxI Θ) (hC : ∀ g r, r < jrwM g → Θ.2.2.2 g r) {h : jH} {v : jV} {σ : jxM} (hw : jHw h) (hv : jVc h v) (hm : jMs h v σ)  : jxMet l y_M_beginnings b_M_beginnings 3 (some FieldType.int) (jrm 4) Θ [.inr (40, 0)] σ (fun r' σ' => r' = some (.inl (nI (jct (fun t => jcmt h t && jd (∃ r, jVo h t t (jct (jcmt h)) r))))) ∧ jfm σ σ') := by
  refine jxMet.of (own := "HistoryJudgeModel") hI (by decide) rfl (Nat.le_of_ble_eq_true rfl) (fun Γ X => ?_)
  show jxW Γ Θ (fun r' σ' => r' = some (.inl (nI (jct (fun t => jcmt h t && jd (∃ r, jVo h t t (jct (jcmt h)) r))))) ∧ jfm σ σ') 0 [some (.inr (40, 0)), none, none] [] σ
  have K : ∀ (N : Nat) (k : Nat) (σ1 : jxM), 8 - k < N → k ≤ 8 → jfm σ σ1 → jxW Γ Θ (fun r' σ' => r' = some (.inl (nI (jct (fun t => jcmt h t && jd (∃ r, jVo h t t (jct (jcmt h)) r))))) ∧ jfm σ σ') 9 [some (.inr (40, 0)), some (.inl (nI (jcf (fun t => jcmt h t && jd (∃ r, jVo h t t (jct (jcmt h)) r)) k))), some (.inl (nI k))] [] σ1 := by
    intro N
    induction N with
    | zero => intro k σ1 hn; exact absurd hn (Nat.not_lt_zero _)
    | succ N ih =>
      intro k σ1 hn hk hf
      refine j_iload_n X (q := 10) d_M_beginnings_9 rfl rfl ?_
      refine j_bipush X (v := (nI 8)) (q := 12) d_M_beginnings_10 (by decide +kernel) rfl ?_
      refine j_ncmp_ge X (tgt := 46) (q := 15) d_M_beginnings_12 (by decide) rfl (by omega) (by omega) (fun h12 => ?_) (fun h12 => ?_)
      · have _b12 := True.intro
        refine j_iload_n X (q := 47) d_M_beginnings_46 rfl rfl ?_
        refine j_iret X d_M_beginnings_47 ?_
        have e : k = 8 := by omega
        subst e
        exact ⟨by rw [jcf_ct], hf⟩
      · have _b12 := True.intro
        refine j_aload_n X (q := 16) d_M_beginnings_15 rfl rfl ?_
        refine j_iload_n X (q := 17) d_M_beginnings_16 rfl rfl ?_
        refine j_callV X (n := 1) (C := jR5) (T := jT5) (N := 18) d_M_beginnings_17 (c_M_isCommitted hI hC hw hv (jMs_keep hm hf) (t := k) (by omega)) rfl rfl (hC _ _ (by decide)) wl574 wl575 wl19 wl42 wl576 (by decide +kernel) ⟨rfl, rfl⟩ (by decide) rfl rfl (Nat.le_of_ble_eq_true rfl) rfl (q := 20) rfl (fun r17 τ17 e17 => ?_)
        obtain ⟨rfl, rfl⟩ := e17
        refine j_bif_eq X (tgt := 38) (q := 23) d_M_beginnings_20 (by decide) rfl (fun h20 => ?_) (fun h20 => ?_)
        · have _b20 := True.intro
          have eb := jcf_n (C := fun t => jcmt h t && jd (∃ r, jVo h t t (jct (jcmt h)) r)) (k := k) (show (jcmt h k && _) = false by rw [show jcmt h k = false from h20]; rfl)
          refine j_iload_n X (q := 39) d_M_beginnings_38 rfl rfl ?_
          refine j_istore_n X (j := 1) (q := 40) d_M_beginnings_39 rfl (Nat.le_of_ble_eq_true rfl) rfl ?_
          refine j_iinc X (q := 43) d_M_beginnings_40 rfl (j_inc1 _) rfl ?_
          refine j_goto X (tgt := 9) d_M_beginnings_43 (by decide) ?_
          refine jxW.to (L' := [some (.inr (40, 0)), some (.inl (nI (jcf (fun t => jcmt h t && jd (∃ r, jVo h t t (jct (jcmt h)) r)) (k + 1)))), some (.inl (nI (k + 1)))]) (by rw [eb]; simp [jfg, nI_add]) ?_
          exact ih (k + 1) _ (by omega) (by omega) hf
        · have _b20 := True.intro
          refine j_aload_n X (q := 24) d_M_beginnings_23 rfl rfl ?_
          refine j_iload_n X (q := 25) d_M_beginnings_24 rfl rfl ?_
          refine j_iload_n X (q := 26) d_M_beginnings_25 rfl rfl ?_
          refine j_callV X (n := 2) (C := jR5) (T := jT5) (N := 18) d_M_beginnings_26 (c_M_tryOrders hI hC hw hv (jMs_keep hm hf) (a := k) (b := k) (by omega) (by omega)) rfl rfl (hC _ _ (by decide)) wl636 wl637 wl32 wl42 wl638 (by decide +kernel) ⟨rfl, rfl⟩ (by decide) rfl rfl (Nat.le_of_ble_eq_true rfl) rfl (q := 29) rfl (fun r26 τ26 e26 => ?_)
          obtain ⟨⟨z, rfl, hz0, hz1⟩, hsz, hf1, hf2⟩ := e26
          refine j_bif_eq X (tgt := 38) (q := 32) d_M_beginnings_29 (by decide) rfl (fun h29 => ?_) (fun h29 => ?_)
          · have _b29 := True.intro
            have eb := jcf_n (C := fun t => jcmt h t && jd (∃ r, jVo h t t (jct (jcmt h)) r)) (k := k) (show (jcmt h k && jd (∃ r, jVo h k k (jct (jcmt h)) r)) = false by rw [show jcmt h k = true from h20, jd_no.mpr (fun ⟨r, q⟩ => hz0 h29 r q)]; rfl)
            refine j_iload_n X (q := 39) d_M_beginnings_38 rfl rfl ?_
            refine j_istore_n X (j := 1) (q := 40) d_M_beginnings_39 rfl (Nat.le_of_ble_eq_true rfl) rfl ?_
            refine j_iinc X (q := 43) d_M_beginnings_40 rfl (j_inc1 _) rfl ?_
            refine j_goto X (tgt := 9) d_M_beginnings_43 (by decide) ?_
            refine jxW.to (L' := [some (.inr (40, 0)), some (.inl (nI (jcf (fun t => jcmt h t && jd (∃ r, jVo h t t (jct (jcmt h)) r)) (k + 1)))), some (.inl (nI (k + 1)))]) (by rw [eb]; simp [jfg, nI_add]) ?_
            exact ih (k + 1) _ (by omega) (by omega) (jfm_tr hf (jfm_o hf1 hf2))
          · have _b29 := True.intro
            obtain ⟨row, -, hV, -⟩ := hz1 h29
            have eb := jcf_y (C := fun t => jcmt h t && jd (∃ r, jVo h t t (jct (jcmt h)) r)) (k := k) (show (jcmt h k && jd (∃ r, jVo h k k (jct (jcmt h)) r)) = true by rw [show jcmt h k = true from h20, jd_iff.mpr ⟨row, hV⟩]; rfl)
            refine j_iload_n X (q := 33) d_M_beginnings_32 rfl rfl ?_
            refine j_iconst X (v := (nI 1)) (q := 34) d_M_beginnings_33 (by decide +kernel) rfl ?_
            refine j_iadd X (q := 35) d_M_beginnings_34 rfl ?_
            refine j_goto X (tgt := 39) d_M_beginnings_35 (by decide) ?_
            refine j_istore_n X (j := 1) (q := 40) d_M_beginnings_39 rfl (Nat.le_of_ble_eq_true rfl) rfl ?_
            refine j_iinc X (q := 43) d_M_beginnings_40 rfl (j_inc1 _) rfl ?_
            refine j_goto X (tgt := 9) d_M_beginnings_43 (by decide) ?_
            refine jxW.to (L' := [some (.inr (40, 0)), some (.inl (nI (jcf (fun t => jcmt h t && jd (∃ r, jVo h t t (jct (jcmt h)) r)) (k + 1)))), some (.inl (nI (k + 1)))]) (by rw [eb]; simp [jfg, nI_add]) ?_
            exact ih (k + 1) _ (by omega) (by omega) (jfm_tr hf (jfm_o hf1 hf2))
  refine j_aload_n X (q := 1) d_M_beginnings_0 rfl rfl ?_
  refine j_iconst X (v := (nI 0)) (q := 2) d_M_beginnings_1 (by decide +kernel) rfl ?_
  refine j_putI X (C := jR5) (T := jT5) (N := 18) (ci := 5) (j := 0) (q := 5) d_M_beginnings_2 ju5 rfl rfl jt5 jt5_ok jn5 rfl (by decide) wl483 rfl (hC _ _ (by decide)) rfl rfl (ty := .int) rfl rfl rfl ?_
  refine j_iconst X (v := (nI 0)) (q := 6) d_M_beginnings_5 (by decide +kernel) rfl ?_
  refine j_istore_n X (j := 1) (q := 7) d_M_beginnings_6 rfl (Nat.le_of_ble_eq_true rfl) rfl ?_
  refine j_iconst X (v := (nI 0)) (q := 8) d_M_beginnings_7 (by decide +kernel) rfl ?_
  refine j_istore_n X (j := 2) (q := 9) d_M_beginnings_8 rfl (Nat.le_of_ble_eq_true rfl) rfl ?_
  exact K 9 0 _ (by omega) (by omega) jfm_c
