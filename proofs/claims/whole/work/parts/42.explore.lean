/-! The search for serial orders: every set from the fullest down; the answers. -/
def jtb (m : Nat) : Nat → Bool := fun i => m.testBit i
theorem jtb_big {m i : Nat} (hm : m < 256) (hi : 8 ≤ i) : jtb m i = false := by
  unfold jtb
  refine Nat.testBit_lt_two_pow (Nat.lt_of_lt_of_le (show m < 2 ^ 8 from hm) (Nat.pow_le_pow_right (by omega) hi))
theorem jtb_bN (S : Nat → Bool) : jtb (jbN S 8) = fun i => decide (i < 8) && S i := by
  funext i
  exact jbN_test S 8 i
theorem jbN_tb {m : Nat} (hm : m < 256) : jbN (jtb m) 8 = m := by
  apply Nat.eq_of_testBit_eq
  intro i
  rw [jbN_test]
  by_cases h : i < 8
  · simp [h, jtb]
  · have := jtb_big hm (show 8 ≤ i by omega)
    unfold jtb at this
    simp [h, this]
theorem jtb_nI {m : Nat} (hm : m < 256) : nI m = bI (jtb m) := by unfold bI; rw [jbN_tb hm]
theorem jtb_ad {m t : Nat} (hm : m < 256) (ht : t < 8) : jtb (jbN (jad (jtb m) t) 8) = jad (jtb m) t := by
  rw [jtb_bN]
  funext i
  by_cases h : i < 8
  · simp [h]
  · have e : jad (jtb m) t i = false := by
      unfold jad
      rw [jtb_big hm (by omega), decide_eq_false (by omega)]
      rfl
    rw [e]; simp
theorem jtb_lt {m t : Nat} (hm : m < 256) (ht : t < 8) (h0 : jtb m t = false) : m < jbN (jad (jtb m) t) 8 := by
  have e : jbN (jad (jtb m) t) 8 = m ||| 2 ^ t := by
    apply Nat.eq_of_testBit_eq
    intro j
    rw [jbN_test, Nat.testBit_or, Nat.testBit_two_pow]
    by_cases h : j < 8
    · by_cases q : t = j
      · subst q; simp [h, jad]
      · simp [h, jad, jtb, q, show ¬ j = t from fun z => q z.symm]
    · have := jtb_big hm (show 8 ≤ j by omega)
      unfold jtb at this
      simp [h, this]; omega
  rw [e]
  refine Nat.lt_of_le_of_ne Nat.left_le_or (fun q => ?_)
  have h1 : m.testBit t = (m ||| 2 ^ t).testBit t := by rw [← q]
  rw [Nat.testBit_or, Nat.testBit_two_pow] at h1
  unfold jtb at h0
  rw [h0] at h1
  simp at h1
/-- what nexts holds of the set m -/
noncomputable def jnxt (C : Nat → Bool) (bf : Nat → Nat → Prop) (rb : Nat → Nat → Nat → Prop) (sd : Bool) (m : Nat) : Int32 := if (sd && jd (∀ i, i < 8 → jtb m i = true → C i = true)) = true then bI (fun t => jd (jnf C (jmfc bf rb) (jtb m) t)) else nI 0
theorem jfo_nf {C : Nat → Bool} {bf : Nat → Nat → Prop} {rb : Nat → Nat → Nat → Prop} {sd : Bool} {σ : jxM} {m : Nat} (hm : m < 256) (hsd : sd = true) (hsub : ∀ i, i < 8 → jtb m i = true → C i = true) (hall : ∀ m', m < m' → m' < 256 → σ 34 0 m' = jnxt C bf rb sd m') {t : Nat} (ht : t < 8) :
    jfo C bf rb σ (jtb m) t = jd (jnf C (jmfc bf rb) (jtb m) t) := by
  rw [Bool.eq_iff_iff, jd_iff]
  unfold jfo jnf
  rw [Bool.and_eq_true, Bool.and_eq_true, Bool.and_eq_true, jd_iff, jd_iff, Bool.not_eq_true']
  have key : C t = true → jtb m t = false → (((∀ i, i < 8 → jad (jtb m) t i = C i) ∨ σ 34 0 (jbN (jad (jtb m) t) 8) ≠ 0) ↔ jce C (jmfc bf rb) (jad (jtb m) t)) := by
    intro hc h0
    have hsub2 : ∀ i, i < 8 → jad (jtb m) t i = true → C i = true := by
      intro i hi q
      unfold jad at q
      rw [Bool.or_eq_true, decide_eq_true_eq] at q
      rcases q with q | q
      · exact hsub i hi q
      · rw [q]; exact hc
    have hv : σ 34 0 (jbN (jad (jtb m) t) 8) = bI (fun u => jd (jnf C (jmfc bf rb) (jad (jtb m) t) u)) := by
      rw [hall _ (jtb_lt hm ht h0) (jbN_256 _)]
      unfold jnxt
      rw [jtb_ad hm ht, if_pos (by rw [hsd, jd_iff.mpr hsub2]; rfl)]
    rw [hv, jce_iff, Ne, bI_zero]
    constructor
    · rintro (q | q)
      · exact Or.inl (fun u hu hcu => by rw [q u hu]; exact hcu)
      · refine Or.inr (Classical.byContradiction (fun z => q (fun u hu => jd_no.mpr (fun y => z ⟨u, y⟩))))
    · rintro (q | ⟨u, q⟩)
      · refine Or.inl (fun i hi => ?_)
        cases e : jad (jtb m) t i with
        | true => exact (hsub2 i hi e).symm
        | false =>
          cases e2 : C i with
          | false => rfl
          | true => rw [q i hi e2] at e; cases e
      · refine Or.inr (fun z => ?_)
        have := z u q.1
        rw [jd_iff.mpr q] at this; cases this
  constructor
  · rintro ⟨⟨⟨a, b⟩, c⟩, d⟩
    exact ⟨ht, a, b, c, (key a b).mp d⟩
  · rintro ⟨_, a, b, c, d⟩
    exact ⟨⟨⟨a, b⟩, c⟩, (key a b).mpr d⟩
def jprd : Nat → Option Nat
  | 0 => none
  | m + 1 => some m
set_option maxRecDepth 100000 in
set_option maxHeartbeats 4000000 in
theorem c_S_explore {l : Launch} {Θ : jxT} (hI : jxI Θ) (hC : ∀ g r, r < jrwJ g → Θ.2.2.2 g r) {h : jH} {σ : jxM} (hw : jHw h) (hs : jHs h σ)  : jxMet l y_S_explore b_S_explore 4 none (jrm 6) Θ [.inr (30, 0), .inr (1, 0)] σ (fun r' σ' => r' = none ∧ jZs (jcmt h) (jbfR h (hyR h)) (jrbR h (hyR h)) (jd (jsdR h (hyR h))) σ' ∧ (∀ m, m < 256 → σ' 34 0 m = jnxt (jcmt h) (jbfR h (hyR h)) (jrbR h (hyR h)) (jd (jsdR h (hyR h))) m) ∧ ∀ g', g' < 30 ∨ 34 < g' → σ' g' = σ g') := by
  refine jxMet.of (own := "HistoryJudge$SerialSearch") hI (by decide) rfl (Nat.le_of_ble_eq_true rfl) (fun Γ X => ?_)
  show jxW Γ Θ (fun r' σ' => r' = none ∧ jZs (jcmt h) (jbfR h (hyR h)) (jrbR h (hyR h)) (jd (jsdR h (hyR h))) σ' ∧ (∀ m, m < 256 → σ' 34 0 m = jnxt (jcmt h) (jbfR h (hyR h)) (jrbR h (hyR h)) (jd (jsdR h (hyR h))) m) ∧ ∀ g', g' < 30 ∨ 34 < g' → σ' g' = σ g') 0 [some (.inr (30, 0)), some (.inr (1, 0)), none, none] [] σ
  have K : ∀ (N : Nat) (k : Nat) (σ1 : jxM), k < N → k ≤ 256 → jZs (jcmt h) (jbfR h (hyR h)) (jrbR h (hyR h)) (jd (jsdR h (hyR h))) σ1 → (∀ m', k ≤ m' → m' < 256 → σ1 34 0 m' = jnxt (jcmt h) (jbfR h (hyR h)) (jrbR h (hyR h)) (jd (jsdR h (hyR h))) m') → (∀ g', g' < 30 ∨ 34 < g' → σ1 g' = σ g') → jxW Γ Θ (fun r' σ' => r' = none ∧ jZs (jcmt h) (jbfR h (hyR h)) (jrbR h (hyR h)) (jd (jsdR h (hyR h))) σ' ∧ (∀ m, m < 256 → σ' 34 0 m = jnxt (jcmt h) (jbfR h (hyR h)) (jrbR h (hyR h)) (jd (jsdR h (hyR h))) m) ∧ ∀ g', g' < 30 ∨ 34 < g' → σ' g' = σ g') 13 [some (.inr (30, 0)), some (.inr (1, 0)), some (.inl (vI (jprd k))), none] [] σ1 := by
    intro N
    induction N with
    | zero => intro k σ1 hn; exact absurd hn (Nat.not_lt_zero _)
    | succ N ih =>
      intro k σ1 hn hk hz1 hx1 hf1
      refine j_iload_n X (q := 14) d_S_explore_13 rfl rfl ?_
      refine j_if_lt X (tgt := 66) (q := 17) d_S_explore_14 (by decide) rfl (fun h14 => ?_) (fun h14 => ?_)
      · have _b14 := True.intro
        have hk0 : k = 0 := by
          cases k with
          | zero => rfl
          | succ m => exact absurd h14 (nI_pos (show m < 2 ^ 31 by omega))
        refine j_vret X d_S_explore_66 ?_
        subst hk0
        exact ⟨rfl, hz1, fun m hm => hx1 m (by omega) hm, hf1⟩
      · have _b14 := True.intro
        obtain ⟨m, rfl⟩ : ∃ m, k = m + 1 := by
          cases k with
          | zero => exact absurd (by decide +kernel : vI (jprd 0) < 0) h14
          | succ m => exact ⟨m, rfl⟩
        have hm : m < 256 := by omega
        have J40 : jxW Γ Θ (fun r' σ' => r' = none ∧ jZs (jcmt h) (jbfR h (hyR h)) (jrbR h (hyR h)) (jd (jsdR h (hyR h))) σ' ∧ (∀ m, m < 256 → σ' 34 0 m = jnxt (jcmt h) (jbfR h (hyR h)) (jrbR h (hyR h)) (jd (jsdR h (hyR h))) m) ∧ ∀ g', g' < 30 ∨ 34 < g' → σ' g' = σ g') 40 [some (.inr (30, 0)), some (.inr (1, 0)), some (.inl (nI m)), none] [.inl (jB (jd (jsdR h (hyR h)) && jd (∀ i, i < 8 → jtb m i = true → jcmt h i = true)))] σ1 := by
          refine j_istore_n X (j := 3) (q := 41) d_S_explore_40 rfl (Nat.le_of_ble_eq_true rfl) rfl ?_
          refine j_aload_n X (q := 42) d_S_explore_41 rfl rfl ?_
          refine j_getR X (C := jR3) (T := jT3) (N := 5) (ci := 3) (j := 2) (q := 45) d_S_explore_42 ju3 rfl rfl rfl (by decide) wl157 rfl (hC _ _ (by decide)) rfl ?_
          refine j_iload_n X (q := 46) d_S_explore_45 rfl rfl ?_
          refine j_iload_n X (q := 47) d_S_explore_46 rfl rfl ?_
          refine j_bif_eq X (tgt := 58) (q := 50) d_S_explore_47 (by decide) rfl (fun h47 => ?_) (fun h47 => ?_)
          · have _b47 := True.intro
            refine j_iconst X (v := (nI 0)) (q := 59) d_S_explore_58 (by decide +kernel) rfl ?_
            refine j_iast X (q := 60) d_S_explore_59 rfl (by decide) rfl hm (hC _ _ (by decide)) rfl ?_
            refine j_iinc X (q := 63) d_S_explore_60 rfl (show nI m + Int32.ofInt (-1) = vI (jprd m) by cases m with | zero => decide +kernel | succ q => exact j_dec1 q) rfl ?_
            refine j_goto X (tgt := 13) d_S_explore_63 (by decide) ?_
            refine jxW.to (L' := [some (.inr (30, 0)), some (.inr (1, 0)), some (.inl (vI (jprd m))), none]) (by simp [jfg]) ?_
            refine ih m _ (by omega) (by omega) (jZs_keep hz1 (jxs_g _ _ _ _ _ (by decide)) (jxs_g _ _ _ _ _ (by decide)) (jxs_g _ _ _ _ _ (by decide))) (fun m' h1 h2 => ?_) (fun g' hg => by rw [jxs_g _ _ _ _ _ (by omega), hf1 g' hg])
            by_cases e : m' = m
            · subst e
              rw [jxs_at, if_pos ⟨rfl, rfl, rfl⟩]
              unfold jnxt
              rw [if_neg (by rw [h47]; exact Bool.false_ne_true)]
            · rw [jxs_at, if_neg (fun q => e q.2.2)]
              exact hx1 m' (by omega) h2
          · have _b47 := True.intro
            refine j_aload_n X (q := 51) d_S_explore_50 rfl rfl ?_
            refine j_iload_n X (q := 52) d_S_explore_51 rfl rfl ?_
            refine jxW.cast rfl (show _ = [.inl (bI (jtb m)), .inr (30, 0), .inl (nI m), .inr (34, 0)] by rw [← jtb_nI hm]) rfl ?_
            refine j_callV X (n := 1) (C := jR3) (T := jT3) (N := 5) d_S_explore_52 (c_S_followers hI hC hz1 (jtb m)) rfl rfl (hC _ _ (by decide)) wl316 wl317 wl12 wl41 wl318 (by decide +kernel) ⟨rfl, rfl⟩ (by decide) rfl rfl (Nat.le_of_ble_eq_true rfl) rfl (q := 55) rfl (fun r52 τ52 e52 => ?_)
            obtain ⟨rfl, rfl⟩ := e52
            refine j_goto X (tgt := 59) d_S_explore_55 (by decide) ?_
            refine j_iast X (q := 60) d_S_explore_59 rfl (by decide) rfl hm (hC _ _ (by decide)) rfl ?_
            refine j_iinc X (q := 63) d_S_explore_60 rfl (show nI m + Int32.ofInt (-1) = vI (jprd m) by cases m with | zero => decide +kernel | succ q => exact j_dec1 q) rfl ?_
            refine j_goto X (tgt := 13) d_S_explore_63 (by decide) ?_
            refine jxW.to (L' := [some (.inr (30, 0)), some (.inr (1, 0)), some (.inl (vI (jprd m))), none]) (by simp [jfg]) ?_
            refine ih m _ (by omega) (by omega) (jZs_keep hz1 (jxs_g _ _ _ _ _ (by decide)) (jxs_g _ _ _ _ _ (by decide)) (jxs_g _ _ _ _ _ (by decide))) (fun m' h1 h2 => ?_) (fun g' hg => by rw [jxs_g _ _ _ _ _ (by omega), hf1 g' hg])
            by_cases e : m' = m
            · subst e
              rw [jxs_at, if_pos ⟨rfl, rfl, rfl⟩]
              unfold jnxt
              rw [if_pos h47]
              rw [Bool.and_eq_true, jd_iff (p := ∀ i, i < 8 → jtb m' i = true → jcmt h i = true)] at h47
              exact bI_ext (fun t ht => jfo_nf hm h47.1 h47.2 (fun q h1 h2 => hx1 q (by omega) h2) ht)
            · rw [jxs_at, if_neg (fun q => e q.2.2)]
              exact hx1 m' (by omega) h2
        refine j_aload_n X (q := 18) d_S_explore_17 rfl rfl ?_
        refine j_getI X (C := jR3) (T := jT3) (N := 5) (ci := 3) (j := 4) (q := 21) d_S_explore_18 ju3 rfl rfl rfl (by decide) wl160 rfl (hC _ _ (by decide)) rfl hz1.2.1 ?_
        refine j_bif_eq X (tgt := 39) (q := 24) d_S_explore_21 (by decide) rfl (fun h21 => ?_) (fun h21 => ?_)
        · have _b21 := True.intro
          have ea : (jd (jsdR h (hyR h)) && jd (∀ i, i < 8 → jtb m i = true → jcmt h i = true)) = false := by rw [h21]; rfl
          refine j_iconst X (v := (nI 0)) (q := 40) d_S_explore_39 (by decide +kernel) rfl ?_
          refine jxW.to (L' := [some (.inr (30, 0)), some (.inr (1, 0)), some (.inl (nI m)), none]) (by simp [jfg, jprd, vI]) ?_
          refine jxW.cast rfl (show _ = [.inl (jB (jd (jsdR h (hyR h)) && jd (∀ i, i < 8 → jtb m i = true → jcmt h i = true)))] by rw [ea]; rfl) rfl ?_
          exact J40
        · have _b21 := True.intro
          refine j_iload_n X (q := 25) d_S_explore_24 rfl rfl ?_
          refine j_aload_n X (q := 26) d_S_explore_25 rfl rfl ?_
          refine j_getI X (C := jR3) (T := jT3) (N := 5) (ci := 3) (j := 3) (q := 29) d_S_explore_26 ju3 rfl rfl rfl (by decide) wl159 rfl (hC _ _ (by decide)) rfl hz1.1 ?_
          refine j_iconst X (v := (-1)) (q := 30) d_S_explore_29 (by decide +kernel) rfl ?_
          refine j_ixor X (q := 31) d_S_explore_30 rfl ?_
          refine jxW.cast rfl (show _ = [.inl (bI (jcmt h) ^^^ (-1)), .inl (bI (jtb m))] by rw [← jtb_nI hm]; rfl) rfl ?_
          refine j_iand X (q := 32) d_S_explore_31 rfl ?_
          refine j_if_ne X (tgt := 39) (q := 35) d_S_explore_32 (by decide) rfl (fun h32 => ?_) (fun h32 => ?_)
          · have _b32 := True.intro
            have ea : (jd (jsdR h (hyR h)) && jd (∀ i, i < 8 → jtb m i = true → jcmt h i = true)) = false := by
              rw [(jd_no (p := ∀ i, i < 8 → jtb m i = true → jcmt h i = true)).mpr (fun q => h32 (by rw [bI_andn, bI_zero]; intro i hi; cases e : jtb m i with | false => rfl | true => rw [q i hi e]; rfl)), Bool.and_false]
            refine j_iconst X (v := (nI 0)) (q := 40) d_S_explore_39 (by decide +kernel) rfl ?_
            refine jxW.to (L' := [some (.inr (30, 0)), some (.inr (1, 0)), some (.inl (nI m)), none]) (by simp [jfg, jprd, vI]) ?_
            refine jxW.cast rfl (show _ = [.inl (jB (jd (jsdR h (hyR h)) && jd (∀ i, i < 8 → jtb m i = true → jcmt h i = true)))] by rw [ea]; rfl) rfl ?_
            exact J40
          · have _b32 := True.intro
            have ea : (jd (jsdR h (hyR h)) && jd (∀ i, i < 8 → jtb m i = true → jcmt h i = true)) = true := by
              rw [h21, jd_iff.mpr (fun i hi q => by have := (bI_zero _).mp ((bI_andn _ _).symm.trans h32) i hi; simpa [q] using this)]; rfl
            refine j_iconst X (v := (nI 1)) (q := 36) d_S_explore_35 (by decide +kernel) rfl ?_
            refine j_goto X (tgt := 40) d_S_explore_36 (by decide) ?_
            refine jxW.to (L' := [some (.inr (30, 0)), some (.inr (1, 0)), some (.inl (nI m)), none]) (by simp [jfg, jprd, vI]) ?_
            refine jxW.cast rfl (show _ = [.inl (jB (jd (jsdR h (hyR h)) && jd (∀ i, i < 8 → jtb m i = true → jcmt h i = true)))] by rw [ea]; rfl) rfl ?_
            exact J40
  refine j_aload_n X (q := 1) d_S_explore_0 rfl rfl ?_
  refine j_aload_n X (q := 2) d_S_explore_1 rfl rfl ?_
  refine j_callV X (n := 1) (C := jR3) (T := jT3) (N := 5) d_S_explore_2 (c_S_takeReads hI hC hw hs) rfl rfl (hC _ _ (by decide)) wl293 wl294 wl8 wl41 wl295 (by decide +kernel) ⟨rfl, rfl⟩ (by decide) rfl rfl (Nat.le_of_ble_eq_true rfl) rfl (q := 5) rfl (fun r2 τ2 e2 => ?_)
  obtain ⟨rfl, hz0, hf0⟩ := e2
  refine j_aload_n X (q := 6) d_S_explore_5 rfl rfl ?_
  refine j_getR X (C := jR3) (T := jT3) (N := 5) (ci := 3) (j := 2) (q := 9) d_S_explore_6 ju3 rfl rfl rfl (by decide) wl157 rfl (hC _ _ (by decide)) rfl ?_
  refine j_alen X (q := 10) d_S_explore_9 rfl (hC _ _ (by decide)) rfl ?_
  refine j_iconst X (v := (nI 1)) (q := 11) d_S_explore_10 (by decide +kernel) rfl ?_
  refine j_isub X (q := 12) d_S_explore_11 rfl ?_
  refine j_istore_n X (j := 2) (q := 13) d_S_explore_12 rfl (Nat.le_of_ble_eq_true rfl) rfl ?_
  refine jxW.to (L' := [some (.inr (30, 0)), some (.inr (1, 0)), some (.inl (vI (jprd 256))), none]) (by simp [jfg, jprd, vI]; decide +kernel) ?_
  exact K 257 256 _ (by omega) (by omega) hz0 (fun m' h1 h2 => by omega) (fun g' hg => hf0 g' (by omega) (by omega) (by omega))
theorem jbN_none : jbN (fun _ => false) 8 = 0 := by decide
theorem jtb_0 : jtb 0 = fun _ => false := by funext i; simp [jtb]
/-- an order can be ended from nothing: what the search answers -/
theorem jpo_iff {C : Nat → Bool} {bf : Nat → Nat → Prop} {rb : Nat → Nat → Nat → Prop} {sd : Bool} {σ : jxM} (hx : ∀ m, m < 256 → σ 34 0 m = jnxt C bf rb sd m) : (sd && jd ((∀ i, i < 8 → (fun _ => false) i = C i) ∨ σ 34 0 (jbN (fun _ => false) 8) ≠ 0)) = (sd && jd (jce C (jmfc bf rb) (fun _ => false))) := by
  cases sd with
  | false => rfl
  | true =>
    rw [Bool.true_and, Bool.true_and]
    refine jd_ext ?_
    rw [jbN_none, hx 0 (by decide), jce_iff]
    unfold jnxt
    rw [jtb_0, if_pos (by rw [jd_iff.mpr (fun i _ q => by cases q)]; rfl), Ne, bI_zero]
    constructor
    · rintro (q | q)
      · exact Or.inl (fun t ht hc => by rw [← q t ht] at hc; cases hc)
      · exact Or.inr (Classical.byContradiction (fun z => q (fun u hu => jd_no.mpr (fun y => z ⟨u, y⟩))))
    · rintro (q | ⟨u, q⟩)
      · refine Or.inl (fun i hi => ?_)
        cases e : C i with
        | false => rfl
        | true => exact q i hi e
      · exact Or.inr (fun z => by have := z u q.1; rw [jd_iff.mpr q] at this; cases this)
set_option maxRecDepth 100000 in
set_option maxHeartbeats 4000000 in
theorem c_S_isPossible {l : Launch} {Θ : jxT} (hI : jxI Θ) (hC : ∀ g r, r < jrwJ g → Θ.2.2.2 g r) {σ : jxM} {C : Nat → Bool} {bf : Nat → Nat → Prop} {rb : Nat → Nat → Nat → Prop} {sd : Bool} (hz : jZs C bf rb sd σ) (hx : ∀ m, m < 256 → σ 34 0 m = jnxt C bf rb sd m)  : jxMet l y_S_isPossible b_S_isPossible 1 (some FieldType.boolean) (jrm 2) Θ [.inr (30, 0)] σ (jan (jB (sd && jd (jce C (jmfc bf rb) (fun _ => false)))) σ) := by
  refine jxMet.of (own := "HistoryJudge$SerialSearch") hI (by decide) rfl (Nat.le_of_ble_eq_true rfl) (fun Γ X => ?_)
  show jxW Γ Θ (jan (jB (sd && jd (jce C (jmfc bf rb) (fun _ => false)))) σ) 0 [some (.inr (30, 0))] [] σ
  rw [← jpo_iff hx]
  refine j_aload_n X (q := 1) d_S_isPossible_0 rfl rfl ?_
  refine j_getI X (C := jR3) (T := jT3) (N := 5) (ci := 3) (j := 4) (q := 4) d_S_isPossible_1 ju3 rfl rfl rfl (by decide) wl160 rfl (hC _ _ (by decide)) rfl hz.2.1 ?_
  refine j_bif_eq X (tgt := 19) (q := 7) d_S_isPossible_4 (by decide) rfl (fun h4 => ?_) (fun h4 => ?_)
  · have _b4 := True.intro
    refine j_iconst X (v := (nI 0)) (q := 20) d_S_isPossible_19 (by decide +kernel) rfl ?_
    refine j_zret X d_S_isPossible_20 (by decide +kernel) ?_
    exact ⟨by rw [h4]; rfl, rfl⟩
  · have _b4 := True.intro
    refine j_aload_n X (q := 8) d_S_isPossible_7 rfl rfl ?_
    refine j_iconst X (v := (nI 0)) (q := 9) d_S_isPossible_8 (by decide +kernel) rfl ?_
    refine jxW.cast rfl (show _ = [.inl (bI (fun _ => false)), .inr (30, 0)] by rw [bI_false]; rfl) rfl ?_
    refine j_callV X (n := 1) (C := jR3) (T := jT3) (N := 5) d_S_isPossible_9 (c_S_canBeEnded hI hC hz (fun _ => false)) rfl rfl (hC _ _ (by decide)) wl322 wl323 wl14 wl41 wl324 (by decide +kernel) ⟨rfl, rfl⟩ (by decide) rfl rfl (Nat.le_of_ble_eq_true rfl) rfl (q := 12) rfl (fun r9 τ9 e9 => ?_)
    obtain ⟨rfl, rfl⟩ := e9
    refine j_bif_eq X (tgt := 19) (q := 15) d_S_isPossible_12 (by decide) rfl (fun h12 => ?_) (fun h12 => ?_)
    · have _b12 := True.intro
      refine j_iconst X (v := (nI 0)) (q := 20) d_S_isPossible_19 (by decide +kernel) rfl ?_
      refine j_zret X d_S_isPossible_20 (by decide +kernel) ?_
      exact ⟨by rw [h4, h12]; rfl, rfl⟩
    · have _b12 := True.intro
      refine j_iconst X (v := (nI 1)) (q := 16) d_S_isPossible_15 (by decide +kernel) rfl ?_
      refine j_goto X (tgt := 20) d_S_isPossible_16 (by decide) ?_
      refine j_zret X d_S_isPossible_20 (by decide +kernel) ?_
      exact ⟨by rw [h4, h12]; rfl, rfl⟩
