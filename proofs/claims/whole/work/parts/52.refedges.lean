/-! The reference: edges. -/
theorem jnv_fun {h : jH} (hw : jHw h) {x : Nat} (hx : x < 6) {o o1 o2 : Option Nat} (h1 : jnv h x o o1) (h2 : jnv h x o o2) : o1 = o2 := by
  rcases h1 with ⟨rfl, a1, a2⟩ | ⟨i, b1, b2, rfl⟩
  · rcases h2 with ⟨rfl, -⟩ | ⟨j, c1, c2, rfl⟩
    · rfl
    · exfalso
      rcases c2 with ⟨e, c⟩ | ⟨c, e⟩
      · have := a1 e; omega
      · exact a2 _ e (j - 1) (by omega) rfl
  · rcases h2 with ⟨rfl, a1, a2⟩ | ⟨j, c1, c2, rfl⟩
    · exfalso
      rcases b2 with ⟨e, c⟩ | ⟨c, e⟩
      · have := a1 e; omega
      · exact a2 _ e (i - 1) (by omega) rfl
    · have e : i = j := by
        rcases b2 with ⟨e, c⟩ | ⟨c, e⟩
        · rcases c2 with ⟨e', c'⟩ | ⟨c', e'⟩
          · omega
          · rw [e] at e'; cases e'
        · rcases c2 with ⟨e', c'⟩ | ⟨c', e'⟩
          · rw [e'] at e; cases e
          · rw [e] at e'
            have := jHw_inj hw hx (show i - 1 < hyon h x by omega) (show j - 1 < hyon h x by omega) (Option.some.inj e')
            omega
      rw [e]
def jfol (h : jH) (a b w : Nat) : Prop := hyW h w = a ∧ ∃ n, jnv h (hyI h w) (some w) (some n) ∧ hyW h n = b
def jhr (h : jH) (v : jV) (b a e : Nat) : Prop := evb v e = false ∧ evw v e = b ∧ ∃ w, evv v e = some w ∧ hyW h w = a
def jovt (h : jH) (v : jV) (a b e : Nat) : Prop := evb v e = false ∧ evw v e = a ∧ ∃ n, jnv h (evx v e) (evv v e) (some n) ∧ hyW h n = b
theorem vI_neg {o : Option Nat} (h : ∀ w, o = some w → w < 2 ^ 31) : vI o < 0 ↔ o = none := by
  cases o with
  | none => exact ⟨fun _ => rfl, fun _ => by decide +kernel⟩
  | some w => exact ⟨fun q => absurd q (nI_pos (h w rfl)), fun q => by cases q⟩
set_option maxRecDepth 100000 in
set_option maxHeartbeats 4000000 in
theorem c_M_follows {l : Launch} {Θ : jxT} (hI : jxI Θ) (hC : ∀ g r, r < jrwM g → Θ.2.2.2 g r) {h : jH} {v : jV} {σ : jxM} (hw : jHw h) (hv : jVc h v) (hm : jMs h v σ) {a b : Nat} (ha : a < 8) (hb : b < 8) : jxMet l y_M_follows b_M_follows 6 (some FieldType.boolean) (jrm 2) Θ [.inr (40, 0), .inl (nI a), .inl (nI b)] σ (jan (jB (jd (∃ e, e < hyV h ∧ jfol h a b e))) σ) := by
  refine jxMet.of (own := "HistoryJudgeModel") hI (by decide) rfl (Nat.le_of_ble_eq_true rfl) (fun Γ X => ?_)
  show jxW Γ Θ (jan (jB (jd (∃ e, e < hyV h ∧ jfol h a b e))) σ) 0 [some (.inr (40, 0)), some (.inl (nI a)), some (.inl (nI b)), none, none, none] [] σ
  have bV := jHw_V hw
  have K : ∀ (N : Nat) (k : Nat), hyV h - k < N → k ≤ hyV h → jxW Γ Θ (jan (jB (jd (∃ e, e < hyV h ∧ jfol h a b e))) σ) 5 [some (.inr (40, 0)), some (.inl (nI a)), some (.inl (nI b)), some (.inl (jB (jd (∃ e, e < k ∧ jfol h a b e)))), some (.inl (nI k)), none] [] σ := by
    intro N
    induction N with
    | zero => intro k hn; exact absurd hn (Nat.not_lt_zero _)
    | succ N ih =>
      intro k hn hk
      refine j_iload X (q := 7) d_M_follows_5 rfl rfl ?_
      refine j_aload_n X (q := 8) d_M_follows_7 rfl rfl ?_
      refine j_getI X (C := jR5) (T := jT5) (N := 18) (ci := 5) (j := 2) (q := 11) d_M_follows_8 ju5 rfl rfl rfl (by decide) wl485 rfl (hC _ _ (by decide)) rfl (jMs_V hm) ?_
      refine j_ncmp_ge X (tgt := 76) (q := 14) d_M_follows_11 (by decide) rfl (by omega) (by omega) (fun h11 => ?_) (fun h11 => ?_)
      · have _b11 := True.intro
        refine j_iload_n X (q := 77) d_M_follows_76 rfl rfl ?_
        refine j_zret X d_M_follows_77 (jB_narrow _) ?_
        have e : k = hyV h := by omega
        subst e
        exact ⟨rfl, rfl⟩
      · have _b11 := True.intro
        have c3 := jHw_W hw (show k < hyV h by omega)
        have c4 := jHw_I hw (show k < hyV h by omega)
        have J69 : jxW Γ Θ (jan (jB (jd (∃ e, e < hyV h ∧ jfol h a b e))) σ) 69 [some (.inr (40, 0)), some (.inl (nI a)), some (.inl (nI b)), some (.inl (jB (jd (∃ e, e < k ∧ jfol h a b e)))), some (.inl (nI k)), none] [.inl (jB (jd (∃ e, e < (k + 1) ∧ jfol h a b e)))] σ := by
          refine j_istore_n X (j := 3) (q := 70) d_M_follows_69 rfl (Nat.le_of_ble_eq_true rfl) rfl ?_
          refine j_iinc X (q := 73) d_M_follows_70 rfl (j_inc1 _) rfl ?_
          refine j_goto X (tgt := 5) d_M_follows_73 (by decide) ?_
          refine jxW.to (L' := [some (.inr (40, 0)), some (.inl (nI a)), some (.inl (nI b)), some (.inl (jB (jd (∃ e, e < (k + 1) ∧ jfol h a b e)))), some (.inl (nI (k + 1))), none]) (by simp [jfg]) ?_
          exact ih (k + 1) (by omega) (by omega)
        have J42 : ∀ o2 : Option Nat, (hyW h k = a → jnv h (hyI h k) (some k) o2) → (hyW h k ≠ a → o2 = none) → (∀ w, o2 = some w → w < hyV h) → jxW Γ Θ (jan (jB (jd (∃ e, e < hyV h ∧ jfol h a b e))) σ) 42 [some (.inr (40, 0)), some (.inl (nI a)), some (.inl (nI b)), some (.inl (jB (jd (∃ e, e < k ∧ jfol h a b e)))), some (.inl (nI k)), none] [.inl (vI o2)] σ := by
          intro o2 hn1 hn2 hlt
          refine j_istore X (q := 44) d_M_follows_42 (Nat.le_of_ble_eq_true rfl) rfl ?_
          refine j_iload_n X (q := 45) d_M_follows_44 rfl rfl ?_
          refine j_bif_ne X (tgt := 64) (q := 48) d_M_follows_45 (by decide) rfl (fun h45 => ?_) (fun h45 => ?_)
          · have _b45 := True.intro
            refine j_iconst X (v := (nI 1)) (q := 65) d_M_follows_64 (by decide +kernel) rfl ?_
            refine j_goto X (tgt := 69) d_M_follows_65 (by decide) ?_
            refine jxW.to (L' := [some (.inr (40, 0)), some (.inl (nI a)), some (.inl (nI b)), some (.inl (jB (jd (∃ e, e < k ∧ jfol h a b e)))), some (.inl (nI k)), none]) (by simp [jfg]) ?_
            refine jxW.cast rfl (show _ = [.inl (jB (jd (∃ e, e < (k + 1) ∧ jfol h a b e)))] from congrArg (fun z => [Sum.inl z]) (jor1 h45)) rfl ?_
            exact J69
          · have _b45 := True.intro
            refine j_iload X (q := 50) d_M_follows_48 rfl rfl ?_
            refine j_if_lt X (tgt := 68) (q := 53) d_M_follows_50 (by decide) rfl (fun h50 => ?_) (fun h50 => ?_)
            · have _b50 := True.intro
              have en : o2 = none := (vI_neg (fun w q => by have := hlt w q; omega)).mp h50
              refine j_iconst X (v := (nI 0)) (q := 69) d_M_follows_68 (by decide +kernel) rfl ?_
              refine jxW.to (L' := [some (.inr (40, 0)), some (.inl (nI a)), some (.inl (nI b)), some (.inl (jB (jd (∃ e, e < k ∧ jfol h a b e)))), some (.inl (nI k)), none]) (by simp [jfg]) ?_
              refine jxW.cast rfl (show _ = [.inl (jB (jd (∃ e, e < (k + 1) ∧ jfol h a b e)))] from congrArg (fun z => [Sum.inl z]) (jor0 h45 (fun q => by
                obtain ⟨q1, n, q2, q3⟩ := q
                have := jnv_fun hw c4 q2 (hn1 q1); rw [en] at this; cases this))) rfl ?_
              exact J69
            · have _b50 := True.intro
              obtain ⟨n, en⟩ : ∃ n, o2 = some n := by
                cases e : o2 with
                | some n => exact ⟨n, rfl⟩
                | none => exact absurd ((vI_neg (fun w q => by have := hlt w q; omega)).mpr e) h50
              have b2 := hlt n en
              have b3 := jHw_W hw b2
              refine j_aload_n X (q := 54) d_M_follows_53 rfl rfl ?_
              refine j_getR X (C := jR5) (T := jT5) (N := 18) (ci := 5) (j := 3) (q := 57) d_M_follows_54 ju5 rfl rfl rfl (by decide) wl486 rfl (hC _ _ (by decide)) rfl ?_
              refine j_iload X (q := 59) d_M_follows_57 rfl rfl ?_
              refine j_iald X (j := n) (q := 60) d_M_follows_59 rfl (by decide) (show vI o2 = nI n by rw [en]; rfl) (by omega) (hC _ _ (by decide)) rfl (jMs_W hm b2) ?_
              refine j_iload_n X (q := 61) d_M_follows_60 rfl rfl ?_
              refine j_ncmp_ne X (tgt := 68) (q := 64) d_M_follows_61 (by decide) rfl (by omega) (by omega) (fun h61 => ?_) (fun h61 => ?_)
              · have _b61 := True.intro
                refine j_iconst X (v := (nI 0)) (q := 69) d_M_follows_68 (by decide +kernel) rfl ?_
                refine jxW.to (L' := [some (.inr (40, 0)), some (.inl (nI a)), some (.inl (nI b)), some (.inl (jB (jd (∃ e, e < k ∧ jfol h a b e)))), some (.inl (nI k)), none]) (by simp [jfg]) ?_
                refine jxW.cast rfl (show _ = [.inl (jB (jd (∃ e, e < (k + 1) ∧ jfol h a b e)))] from congrArg (fun z => [Sum.inl z]) (jor0 h45 (fun q => by
                  obtain ⟨q1, n, q2, q3⟩ := q
                  have := jnv_fun hw c4 q2 (hn1 q1); rw [en] at this; cases this; exact h61 q3))) rfl ?_
                exact J69
              · have _b61 := True.intro
                refine j_iconst X (v := (nI 1)) (q := 65) d_M_follows_64 (by decide +kernel) rfl ?_
                refine j_goto X (tgt := 69) d_M_follows_65 (by decide) ?_
                refine jxW.to (L' := [some (.inr (40, 0)), some (.inl (nI a)), some (.inl (nI b)), some (.inl (jB (jd (∃ e, e < k ∧ jfol h a b e)))), some (.inl (nI k)), none]) (by simp [jfg]) ?_
                refine jxW.cast rfl (show _ = [.inl (jB (jd (∃ e, e < (k + 1) ∧ jfol h a b e)))] from congrArg (fun z => [Sum.inl z]) (jor2 (by
                  have q1 : hyW h k = a := Classical.byContradiction (fun z => by rw [hn2 z] at en; cases en)
                  exact ⟨q1, n, by rw [← en]; exact hn1 q1, h61⟩))) rfl ?_
                exact J69
        refine j_aload_n X (q := 15) d_M_follows_14 rfl rfl ?_
        refine j_getR X (C := jR5) (T := jT5) (N := 18) (ci := 5) (j := 3) (q := 18) d_M_follows_15 ju5 rfl rfl rfl (by decide) wl486 rfl (hC _ _ (by decide)) rfl ?_
        refine j_iload X (q := 20) d_M_follows_18 rfl rfl ?_
        refine j_iald X (q := 21) d_M_follows_20 rfl (by decide) rfl (by omega) (hC _ _ (by decide)) rfl (jMs_W hm (show k < hyV h by omega)) ?_
        refine j_iload_n X (q := 22) d_M_follows_21 rfl rfl ?_
        refine j_ncmp_ne X (tgt := 41) (q := 25) d_M_follows_22 (by decide) rfl (by omega) (by omega) (fun h22 => ?_) (fun h22 => ?_)
        · have _b22 := True.intro
          refine j_iconst X (v := (-1)) (q := 42) d_M_follows_41 (by decide +kernel) rfl ?_
          refine jxW.to (L' := [some (.inr (40, 0)), some (.inl (nI a)), some (.inl (nI b)), some (.inl (jB (jd (∃ e, e < k ∧ jfol h a b e)))), some (.inl (nI k)), none]) (by simp [jfg]) ?_
          exact J42 none (fun q => absurd q h22) (fun _ => rfl) (fun w q => by cases q)
        · have _b22 := True.intro
          refine j_aload_n X (q := 26) d_M_follows_25 rfl rfl ?_
          refine j_aload_n X (q := 27) d_M_follows_26 rfl rfl ?_
          refine j_getR X (C := jR5) (T := jT5) (N := 18) (ci := 5) (j := 4) (q := 30) d_M_follows_27 ju5 rfl rfl rfl (by decide) wl487 rfl (hC _ _ (by decide)) rfl ?_
          refine j_iload X (q := 32) d_M_follows_30 rfl rfl ?_
          refine j_iald X (q := 33) d_M_follows_32 rfl (by decide) rfl (by omega) (hC _ _ (by decide)) rfl (jMs_I hm (show k < hyV h by omega)) ?_
          refine j_iload X (q := 35) d_M_follows_33 rfl rfl ?_
          refine j_callV X (n := 2) (C := jR5) (T := jT5) (N := 18) d_M_follows_35 (c_M_nextOf hI hC hw hv hm (x := hyI h k) (o := some k) c4 (fun w q => by cases q; omega)) rfl rfl (hC _ _ (by decide)) wl580 wl581 wl21 wl42 wl582 (by decide +kernel) ⟨rfl, rfl⟩ (by decide) rfl rfl (Nat.le_of_ble_eq_true rfl) rfl (q := 38) rfl (fun r35 τ35 e35 => ?_)
          obtain ⟨o2, rfl, rfl, ho2⟩ := e35
          refine j_goto X (tgt := 42) d_M_follows_38 (by decide) ?_
          refine jxW.to (L' := [some (.inr (40, 0)), some (.inl (nI a)), some (.inl (nI b)), some (.inl (jB (jd (∃ e, e < k ∧ jfol h a b e)))), some (.inl (nI k)), none]) (by simp [jfg]) ?_
          exact J42 o2 (fun _ => ho2) (fun q => absurd h22 q) (jnv_lt hw c4 ho2)
  refine j_iconst X (v := (nI 0)) (q := 1) d_M_follows_0 (by decide +kernel) rfl ?_
  refine j_istore_n X (j := 3) (q := 2) d_M_follows_1 rfl (Nat.le_of_ble_eq_true rfl) rfl ?_
  refine j_iconst X (v := (nI 0)) (q := 3) d_M_follows_2 (by decide +kernel) rfl ?_
  refine j_istore X (q := 5) d_M_follows_3 (Nat.le_of_ble_eq_true rfl) rfl ?_
  refine jxW.to (L' := [some (.inr (40, 0)), some (.inl (nI a)), some (.inl (nI b)), some (.inl (jB (jd (∃ e, e < 0 ∧ jfol h a b e)))), some (.inl (nI 0)), none]) (by simp [jfg]; rw [jd_no.mpr id]; rfl) ?_
  exact K 42 0 (by omega) (by omega)
set_option maxRecDepth 100000 in
set_option maxHeartbeats 4000000 in
theorem c_M_overtaken {l : Launch} {Θ : jxT} (hI : jxI Θ) (hC : ∀ g r, r < jrwM g → Θ.2.2.2 g r) {h : jH} {v : jV} {σ : jxM} (hw : jHw h) (hv : jVc h v) (hm : jMs h v σ) {a b : Nat} (ha : a < 8) (hb : b < 8) : jxMet l y_M_overtaken b_M_overtaken 6 (some FieldType.boolean) (jrm 2) Θ [.inr (40, 0), .inl (nI a), .inl (nI b)] σ (jan (jB (jd (∃ e, e < evE v ∧ jovt h v a b e))) σ) := by
  refine jxMet.of (own := "HistoryJudgeModel") hI (by decide) rfl (Nat.le_of_ble_eq_true rfl) (fun Γ X => ?_)
  show jxW Γ Θ (jan (jB (jd (∃ e, e < evE v ∧ jovt h v a b e))) σ) 0 [some (.inr (40, 0)), some (.inl (nI a)), some (.inl (nI b)), none, none, none] [] σ
  have bV := jHw_V hw
  have bE := jVc_E hw hv
  have K : ∀ (N : Nat) (k : Nat), evE v - k < N → k ≤ evE v → jxW Γ Θ (jan (jB (jd (∃ e, e < evE v ∧ jovt h v a b e))) σ) 5 [some (.inr (40, 0)), some (.inl (nI a)), some (.inl (nI b)), some (.inl (jB (jd (∃ e, e < k ∧ jovt h v a b e)))), some (.inl (nI k)), none] [] σ := by
    intro N
    induction N with
    | zero => intro k hn; exact absurd hn (Nat.not_lt_zero _)
    | succ N ih =>
      intro k hn hk
      refine j_iload X (q := 7) d_M_overtaken_5 rfl rfl ?_
      refine j_aload_n X (q := 8) d_M_overtaken_7 rfl rfl ?_
      refine j_getI X (C := jR5) (T := jT5) (N := 18) (ci := 5) (j := 6) (q := 11) d_M_overtaken_8 ju5 rfl rfl rfl (by decide) wl489 rfl (hC _ _ (by decide)) rfl (jMs_E hm) ?_
      refine j_ncmp_ge X (tgt := 91) (q := 14) d_M_overtaken_11 (by decide) rfl (by omega) (by omega) (fun h11 => ?_) (fun h11 => ?_)
      · have _b11 := True.intro
        refine j_iload_n X (q := 92) d_M_overtaken_91 rfl rfl ?_
        refine j_zret X d_M_overtaken_92 (jB_narrow _) ?_
        have e : k = evE v := by omega
        subst e
        exact ⟨rfl, rfl⟩
      · have _b11 := True.intro
        have c3 := jVc_w hv (show k < evE v by omega)
        have c4 := jVc_x hv (show k < evE v by omega)
        have J84 : jxW Γ Θ (jan (jB (jd (∃ e, e < evE v ∧ jovt h v a b e))) σ) 84 [some (.inr (40, 0)), some (.inl (nI a)), some (.inl (nI b)), some (.inl (jB (jd (∃ e, e < k ∧ jovt h v a b e)))), some (.inl (nI k)), none] [.inl (jB (jd (∃ e, e < (k + 1) ∧ jovt h v a b e)))] σ := by
          refine j_istore_n X (j := 3) (q := 85) d_M_overtaken_84 rfl (Nat.le_of_ble_eq_true rfl) rfl ?_
          refine j_iinc X (q := 88) d_M_overtaken_85 rfl (j_inc1 _) rfl ?_
          refine j_goto X (tgt := 5) d_M_overtaken_88 (by decide) ?_
          refine jxW.to (L' := [some (.inr (40, 0)), some (.inl (nI a)), some (.inl (nI b)), some (.inl (jB (jd (∃ e, e < (k + 1) ∧ jovt h v a b e)))), some (.inl (nI (k + 1))), none]) (by simp [jfg]) ?_
          exact ih (k + 1) (by omega) (by omega)
        have J57 : ∀ o2 : Option Nat, (evb v k = false ∧ evw v k = a → jnv h (evx v k) (evv v k) o2) → (¬ (evb v k = false ∧ evw v k = a) → o2 = none) → (∀ w, o2 = some w → w < hyV h) → jxW Γ Θ (jan (jB (jd (∃ e, e < evE v ∧ jovt h v a b e))) σ) 57 [some (.inr (40, 0)), some (.inl (nI a)), some (.inl (nI b)), some (.inl (jB (jd (∃ e, e < k ∧ jovt h v a b e)))), some (.inl (nI k)), none] [.inl (vI o2)] σ := by
          intro o2 hn1 hn2 hlt
          refine j_istore X (q := 59) d_M_overtaken_57 (Nat.le_of_ble_eq_true rfl) rfl ?_
          refine j_iload_n X (q := 60) d_M_overtaken_59 rfl rfl ?_
          refine j_bif_ne X (tgt := 79) (q := 63) d_M_overtaken_60 (by decide) rfl (fun h60 => ?_) (fun h60 => ?_)
          · have _b60 := True.intro
            refine j_iconst X (v := (nI 1)) (q := 80) d_M_overtaken_79 (by decide +kernel) rfl ?_
            refine j_goto X (tgt := 84) d_M_overtaken_80 (by decide) ?_
            refine jxW.to (L' := [some (.inr (40, 0)), some (.inl (nI a)), some (.inl (nI b)), some (.inl (jB (jd (∃ e, e < k ∧ jovt h v a b e)))), some (.inl (nI k)), none]) (by simp [jfg]) ?_
            refine jxW.cast rfl (show _ = [.inl (jB (jd (∃ e, e < (k + 1) ∧ jovt h v a b e)))] from congrArg (fun z => [Sum.inl z]) (jor1 h60)) rfl ?_
            exact J84
          · have _b60 := True.intro
            refine j_iload X (q := 65) d_M_overtaken_63 rfl rfl ?_
            refine j_if_lt X (tgt := 83) (q := 68) d_M_overtaken_65 (by decide) rfl (fun h65 => ?_) (fun h65 => ?_)
            · have _b65 := True.intro
              have en : o2 = none := (vI_neg (fun w q => by have := hlt w q; omega)).mp h65
              refine j_iconst X (v := (nI 0)) (q := 84) d_M_overtaken_83 (by decide +kernel) rfl ?_
              refine jxW.to (L' := [some (.inr (40, 0)), some (.inl (nI a)), some (.inl (nI b)), some (.inl (jB (jd (∃ e, e < k ∧ jovt h v a b e)))), some (.inl (nI k)), none]) (by simp [jfg]) ?_
              refine jxW.cast rfl (show _ = [.inl (jB (jd (∃ e, e < (k + 1) ∧ jovt h v a b e)))] from congrArg (fun z => [Sum.inl z]) (jor0 h60 (fun q => by
                obtain ⟨q0, q1, n, q2, q3⟩ := q
                have := jnv_fun hw c4 q2 (hn1 ⟨q0, q1⟩); rw [en] at this; cases this))) rfl ?_
              exact J84
            · have _b65 := True.intro
              obtain ⟨n, en⟩ : ∃ n, o2 = some n := by
                cases e : o2 with
                | some n => exact ⟨n, rfl⟩
                | none => exact absurd ((vI_neg (fun w q => by have := hlt w q; omega)).mpr e) h65
              have b2 := hlt n en
              have b3 := jHw_W hw b2
              refine j_aload_n X (q := 69) d_M_overtaken_68 rfl rfl ?_
              refine j_getR X (C := jR5) (T := jT5) (N := 18) (ci := 5) (j := 3) (q := 72) d_M_overtaken_69 ju5 rfl rfl rfl (by decide) wl486 rfl (hC _ _ (by decide)) rfl ?_
              refine j_iload X (q := 74) d_M_overtaken_72 rfl rfl ?_
              refine j_iald X (j := n) (q := 75) d_M_overtaken_74 rfl (by decide) (show vI o2 = nI n by rw [en]; rfl) (by omega) (hC _ _ (by decide)) rfl (jMs_W hm b2) ?_
              refine j_iload_n X (q := 76) d_M_overtaken_75 rfl rfl ?_
              refine j_ncmp_ne X (tgt := 83) (q := 79) d_M_overtaken_76 (by decide) rfl (by omega) (by omega) (fun h76 => ?_) (fun h76 => ?_)
              · have _b76 := True.intro
                refine j_iconst X (v := (nI 0)) (q := 84) d_M_overtaken_83 (by decide +kernel) rfl ?_
                refine jxW.to (L' := [some (.inr (40, 0)), some (.inl (nI a)), some (.inl (nI b)), some (.inl (jB (jd (∃ e, e < k ∧ jovt h v a b e)))), some (.inl (nI k)), none]) (by simp [jfg]) ?_
                refine jxW.cast rfl (show _ = [.inl (jB (jd (∃ e, e < (k + 1) ∧ jovt h v a b e)))] from congrArg (fun z => [Sum.inl z]) (jor0 h60 (fun q => by
                  obtain ⟨q0, q1, n, q2, q3⟩ := q
                  have := jnv_fun hw c4 q2 (hn1 ⟨q0, q1⟩); rw [en] at this; cases this; exact h76 q3))) rfl ?_
                exact J84
              · have _b76 := True.intro
                refine j_iconst X (v := (nI 1)) (q := 80) d_M_overtaken_79 (by decide +kernel) rfl ?_
                refine j_goto X (tgt := 84) d_M_overtaken_80 (by decide) ?_
                refine jxW.to (L' := [some (.inr (40, 0)), some (.inl (nI a)), some (.inl (nI b)), some (.inl (jB (jd (∃ e, e < k ∧ jovt h v a b e)))), some (.inl (nI k)), none]) (by simp [jfg]) ?_
                refine jxW.cast rfl (show _ = [.inl (jB (jd (∃ e, e < (k + 1) ∧ jovt h v a b e)))] from congrArg (fun z => [Sum.inl z]) (jor2 (by
                  have q1 : evb v k = false ∧ evw v k = a := Classical.byContradiction (fun z => by rw [hn2 z] at en; cases en)
                  exact ⟨q1.1, q1.2, n, by rw [← en]; exact hn1 q1, h76⟩))) rfl ?_
                exact J84
        refine j_aload_n X (q := 15) d_M_overtaken_14 rfl rfl ?_
        refine j_getR X (C := jR5) (T := jT5) (N := 18) (ci := 5) (j := 10) (q := 18) d_M_overtaken_15 ju5 rfl rfl rfl (by decide) wl493 rfl (hC _ _ (by decide)) rfl ?_
        refine j_iload X (q := 20) d_M_overtaken_18 rfl rfl ?_
        refine j_zald X (q := 21) d_M_overtaken_20 rfl (by decide) rfl (by omega) (hC _ _ (by decide)) rfl (jMs_b hm (show k < evE v by omega)) ?_
        refine j_bif_ne X (tgt := 56) (q := 24) d_M_overtaken_21 (by decide) rfl (fun h21 => ?_) (fun h21 => ?_)
        · have _b21 := True.intro
          refine j_iconst X (v := (-1)) (q := 57) d_M_overtaken_56 (by decide +kernel) rfl ?_
          refine jxW.to (L' := [some (.inr (40, 0)), some (.inl (nI a)), some (.inl (nI b)), some (.inl (jB (jd (∃ e, e < k ∧ jovt h v a b e)))), some (.inl (nI k)), none]) (by simp [jfg]) ?_
          exact J57 none (fun q => by rw [h21] at q; cases q.1) (fun _ => rfl) (fun w q => by cases q)
        · have _b21 := True.intro
          refine j_aload_n X (q := 25) d_M_overtaken_24 rfl rfl ?_
          refine j_getR X (C := jR5) (T := jT5) (N := 18) (ci := 5) (j := 7) (q := 28) d_M_overtaken_25 ju5 rfl rfl rfl (by decide) wl490 rfl (hC _ _ (by decide)) rfl ?_
          refine j_iload X (q := 30) d_M_overtaken_28 rfl rfl ?_
          refine j_iald X (q := 31) d_M_overtaken_30 rfl (by decide) rfl (by omega) (hC _ _ (by decide)) rfl (jMs_w hm (show k < evE v by omega)) ?_
          refine j_iload_n X (q := 32) d_M_overtaken_31 rfl rfl ?_
          refine j_ncmp_ne X (tgt := 56) (q := 35) d_M_overtaken_32 (by decide) rfl (by omega) (by omega) (fun h32 => ?_) (fun h32 => ?_)
          · have _b32 := True.intro
            refine j_iconst X (v := (-1)) (q := 57) d_M_overtaken_56 (by decide +kernel) rfl ?_
            refine jxW.to (L' := [some (.inr (40, 0)), some (.inl (nI a)), some (.inl (nI b)), some (.inl (jB (jd (∃ e, e < k ∧ jovt h v a b e)))), some (.inl (nI k)), none]) (by simp [jfg]) ?_
            exact J57 none (fun q => absurd q.2 h32) (fun _ => rfl) (fun w q => by cases q)
          · have _b32 := True.intro
            refine j_aload_n X (q := 36) d_M_overtaken_35 rfl rfl ?_
            refine j_aload_n X (q := 37) d_M_overtaken_36 rfl rfl ?_
            refine j_getR X (C := jR5) (T := jT5) (N := 18) (ci := 5) (j := 8) (q := 40) d_M_overtaken_37 ju5 rfl rfl rfl (by decide) wl491 rfl (hC _ _ (by decide)) rfl ?_
            refine j_iload X (q := 42) d_M_overtaken_40 rfl rfl ?_
            refine j_iald X (q := 43) d_M_overtaken_42 rfl (by decide) rfl (by omega) (hC _ _ (by decide)) rfl (jMs_x hm (show k < evE v by omega)) ?_
            refine j_aload_n X (q := 44) d_M_overtaken_43 rfl rfl ?_
            refine j_getR X (C := jR5) (T := jT5) (N := 18) (ci := 5) (j := 9) (q := 47) d_M_overtaken_44 ju5 rfl rfl rfl (by decide) wl492 rfl (hC _ _ (by decide)) rfl ?_
            refine j_iload X (q := 49) d_M_overtaken_47 rfl rfl ?_
            refine j_iald X (q := 50) d_M_overtaken_49 rfl (by decide) rfl (by omega) (hC _ _ (by decide)) rfl (jMs_v hm (show k < evE v by omega)) ?_
            refine j_callV X (n := 2) (C := jR5) (T := jT5) (N := 18) d_M_overtaken_50 (c_M_nextOf hI hC hw hv hm (x := evx v k) (o := evv v k) c4 (fun w q => jVc_v hv (by omega) q)) rfl rfl (hC _ _ (by decide)) wl580 wl581 wl21 wl42 wl582 (by decide +kernel) ⟨rfl, rfl⟩ (by decide) rfl rfl (Nat.le_of_ble_eq_true rfl) rfl (q := 53) rfl (fun r50 τ50 e50 => ?_)
            obtain ⟨o2, rfl, rfl, ho2⟩ := e50
            refine j_goto X (tgt := 57) d_M_overtaken_53 (by decide) ?_
            refine jxW.to (L' := [some (.inr (40, 0)), some (.inl (nI a)), some (.inl (nI b)), some (.inl (jB (jd (∃ e, e < k ∧ jovt h v a b e)))), some (.inl (nI k)), none]) (by simp [jfg]) ?_
            exact J57 o2 (fun _ => ho2) (fun q => absurd ⟨h21, h32⟩ q) (jnv_lt hw c4 ho2)
  refine j_iconst X (v := (nI 0)) (q := 1) d_M_overtaken_0 (by decide +kernel) rfl ?_
  refine j_istore_n X (j := 3) (q := 2) d_M_overtaken_1 rfl (Nat.le_of_ble_eq_true rfl) rfl ?_
  refine j_iconst X (v := (nI 0)) (q := 3) d_M_overtaken_2 (by decide +kernel) rfl ?_
  refine j_istore X (q := 5) d_M_overtaken_3 (Nat.le_of_ble_eq_true rfl) rfl ?_
  refine jxW.to (L' := [some (.inr (40, 0)), some (.inl (nI a)), some (.inl (nI b)), some (.inl (jB (jd (∃ e, e < 0 ∧ jovt h v a b e)))), some (.inl (nI 0)), none]) (by simp [jfg]; rw [jd_no.mpr id]; rfl) ?_
  exact K 102 0 (by omega) (by omega)
set_option maxRecDepth 100000 in
set_option maxHeartbeats 4000000 in
theorem c_M_hasRead {l : Launch} {Θ : jxT} (hI : jxI Θ) (hC : ∀ g r, r < jrwM g → Θ.2.2.2 g r) {h : jH} {v : jV} {σ : jxM} (hw : jHw h) (hv : jVc h v) (hm : jMs h v σ) {a b : Nat} (ha : a < 8) (hb : b < 8) : jxMet l y_M_hasRead b_M_hasRead 5 (some FieldType.boolean) (jrm 1) Θ [.inr (40, 0), .inl (nI a), .inl (nI b)] σ (jan (jB (jd (∃ e, e < evE v ∧ jhr h v a b e))) σ) := by
  refine jxMet.of (own := "HistoryJudgeModel") hI (by decide) rfl (Nat.le_of_ble_eq_true rfl) (fun Γ X => ?_)
  show jxW Γ Θ (jan (jB (jd (∃ e, e < evE v ∧ jhr h v a b e))) σ) 0 [some (.inr (40, 0)), some (.inl (nI a)), some (.inl (nI b)), none, none] [] σ
  have bV := jHw_V hw
  have bE := jVc_E hw hv
  have K : ∀ (N : Nat) (k : Nat), evE v - k < N → k ≤ evE v → jxW Γ Θ (jan (jB (jd (∃ e, e < evE v ∧ jhr h v a b e))) σ) 5 [some (.inr (40, 0)), some (.inl (nI a)), some (.inl (nI b)), some (.inl (jB (jd (∃ e, e < k ∧ jhr h v a b e)))), some (.inl (nI k))] [] σ := by
    intro N
    induction N with
    | zero => intro k hn; exact absurd hn (Nat.not_lt_zero _)
    | succ N ih =>
      intro k hn hk
      refine j_iload X (q := 7) d_M_hasRead_5 rfl rfl ?_
      refine j_aload_n X (q := 8) d_M_hasRead_7 rfl rfl ?_
      refine j_getI X (C := jR5) (T := jT5) (N := 18) (ci := 5) (j := 6) (q := 11) d_M_hasRead_8 ju5 rfl rfl rfl (by decide) wl489 rfl (hC _ _ (by decide)) rfl (jMs_E hm) ?_
      refine j_ncmp_ge X (tgt := 77) (q := 14) d_M_hasRead_11 (by decide) rfl (by omega) (by omega) (fun h11 => ?_) (fun h11 => ?_)
      · have _b11 := True.intro
        refine j_iload_n X (q := 78) d_M_hasRead_77 rfl rfl ?_
        refine j_zret X d_M_hasRead_78 (jB_narrow _) ?_
        have e : k = evE v := by omega
        subst e
        exact ⟨rfl, rfl⟩
      · have _b11 := True.intro
        have c3 := jVc_w hv (show k < evE v by omega)
        have hlt := fun w (q : evv v k = some w) => jVc_v hv (show k < evE v by omega) q
        have J70 : jxW Γ Θ (jan (jB (jd (∃ e, e < evE v ∧ jhr h v a b e))) σ) 70 [some (.inr (40, 0)), some (.inl (nI a)), some (.inl (nI b)), some (.inl (jB (jd (∃ e, e < k ∧ jhr h v a b e)))), some (.inl (nI k))] [.inl (jB (jd (∃ e, e < (k + 1) ∧ jhr h v a b e)))] σ := by
          refine j_istore_n X (j := 3) (q := 71) d_M_hasRead_70 rfl (Nat.le_of_ble_eq_true rfl) rfl ?_
          refine j_iinc X (q := 74) d_M_hasRead_71 rfl (j_inc1 _) rfl ?_
          refine j_goto X (tgt := 5) d_M_hasRead_74 (by decide) ?_
          refine jxW.to (L' := [some (.inr (40, 0)), some (.inl (nI a)), some (.inl (nI b)), some (.inl (jB (jd (∃ e, e < (k + 1) ∧ jhr h v a b e)))), some (.inl (nI (k + 1)))]) (by simp [jfg]) ?_
          exact ih (k + 1) (by omega) (by omega)
        refine j_iload_n X (q := 15) d_M_hasRead_14 rfl rfl ?_
        refine j_bif_ne X (tgt := 65) (q := 18) d_M_hasRead_15 (by decide) rfl (fun h15 => ?_) (fun h15 => ?_)
        · have _b15 := True.intro
          refine j_iconst X (v := (nI 1)) (q := 66) d_M_hasRead_65 (by decide +kernel) rfl ?_
          refine j_goto X (tgt := 70) d_M_hasRead_66 (by decide) ?_
          refine jxW.to (L' := [some (.inr (40, 0)), some (.inl (nI a)), some (.inl (nI b)), some (.inl (jB (jd (∃ e, e < k ∧ jhr h v a b e)))), some (.inl (nI k))]) (by simp [jfg]) ?_
          refine jxW.cast rfl (show _ = [.inl (jB (jd (∃ e, e < (k + 1) ∧ jhr h v a b e)))] from congrArg (fun z => [Sum.inl z]) (jor1 h15)) rfl ?_
          exact J70
        · have _b15 := True.intro
          refine j_aload_n X (q := 19) d_M_hasRead_18 rfl rfl ?_
          refine j_getR X (C := jR5) (T := jT5) (N := 18) (ci := 5) (j := 10) (q := 22) d_M_hasRead_19 ju5 rfl rfl rfl (by decide) wl493 rfl (hC _ _ (by decide)) rfl ?_
          refine j_iload X (q := 24) d_M_hasRead_22 rfl rfl ?_
          refine j_zald X (q := 25) d_M_hasRead_24 rfl (by decide) rfl (by omega) (hC _ _ (by decide)) rfl (jMs_b hm (show k < evE v by omega)) ?_
          refine j_bif_ne X (tgt := 69) (q := 28) d_M_hasRead_25 (by decide) rfl (fun h25 => ?_) (fun h25 => ?_)
          · have _b25 := True.intro
            refine j_iconst X (v := (nI 0)) (q := 70) d_M_hasRead_69 (by decide +kernel) rfl ?_
            refine jxW.to (L' := [some (.inr (40, 0)), some (.inl (nI a)), some (.inl (nI b)), some (.inl (jB (jd (∃ e, e < k ∧ jhr h v a b e)))), some (.inl (nI k))]) (by simp [jfg]) ?_
            refine jxW.cast rfl (show _ = [.inl (jB (jd (∃ e, e < (k + 1) ∧ jhr h v a b e)))] from congrArg (fun z => [Sum.inl z]) (jor0 h15 (fun q => by obtain ⟨q0, q1, w, q2, q3⟩ := q; rw [h25] at q0; cases q0))) rfl ?_
            exact J70
          · have _b25 := True.intro
            refine j_aload_n X (q := 29) d_M_hasRead_28 rfl rfl ?_
            refine j_getR X (C := jR5) (T := jT5) (N := 18) (ci := 5) (j := 7) (q := 32) d_M_hasRead_29 ju5 rfl rfl rfl (by decide) wl490 rfl (hC _ _ (by decide)) rfl ?_
            refine j_iload X (q := 34) d_M_hasRead_32 rfl rfl ?_
            refine j_iald X (q := 35) d_M_hasRead_34 rfl (by decide) rfl (by omega) (hC _ _ (by decide)) rfl (jMs_w hm (show k < evE v by omega)) ?_
            refine j_iload_n X (q := 36) d_M_hasRead_35 rfl rfl ?_
            refine j_ncmp_ne X (tgt := 69) (q := 39) d_M_hasRead_36 (by decide) rfl (by omega) (by omega) (fun h36 => ?_) (fun h36 => ?_)
            · have _b36 := True.intro
              refine j_iconst X (v := (nI 0)) (q := 70) d_M_hasRead_69 (by decide +kernel) rfl ?_
              refine jxW.to (L' := [some (.inr (40, 0)), some (.inl (nI a)), some (.inl (nI b)), some (.inl (jB (jd (∃ e, e < k ∧ jhr h v a b e)))), some (.inl (nI k))]) (by simp [jfg]) ?_
              refine jxW.cast rfl (show _ = [.inl (jB (jd (∃ e, e < (k + 1) ∧ jhr h v a b e)))] from congrArg (fun z => [Sum.inl z]) (jor0 h15 (fun q => by obtain ⟨q0, q1, w, q2, q3⟩ := q; exact h36 q1))) rfl ?_
              exact J70
            · have _b36 := True.intro
              refine j_aload_n X (q := 40) d_M_hasRead_39 rfl rfl ?_
              refine j_getR X (C := jR5) (T := jT5) (N := 18) (ci := 5) (j := 9) (q := 43) d_M_hasRead_40 ju5 rfl rfl rfl (by decide) wl492 rfl (hC _ _ (by decide)) rfl ?_
              refine j_iload X (q := 45) d_M_hasRead_43 rfl rfl ?_
              refine j_iald X (q := 46) d_M_hasRead_45 rfl (by decide) rfl (by omega) (hC _ _ (by decide)) rfl (jMs_v hm (show k < evE v by omega)) ?_
              refine j_if_lt X (tgt := 69) (q := 49) d_M_hasRead_46 (by decide) rfl (fun h46 => ?_) (fun h46 => ?_)
              · have _b46 := True.intro
                have en : evv v k = none := (vI_neg (fun w q => by have := hlt w q; omega)).mp h46
                refine j_iconst X (v := (nI 0)) (q := 70) d_M_hasRead_69 (by decide +kernel) rfl ?_
                refine jxW.to (L' := [some (.inr (40, 0)), some (.inl (nI a)), some (.inl (nI b)), some (.inl (jB (jd (∃ e, e < k ∧ jhr h v a b e)))), some (.inl (nI k))]) (by simp [jfg]) ?_
                refine jxW.cast rfl (show _ = [.inl (jB (jd (∃ e, e < (k + 1) ∧ jhr h v a b e)))] from congrArg (fun z => [Sum.inl z]) (jor0 h15 (fun q => by obtain ⟨q0, q1, w, q2, q3⟩ := q; rw [en] at q2; cases q2))) rfl ?_
                exact J70
              · have _b46 := True.intro
                obtain ⟨n, en⟩ : ∃ n, evv v k = some n := by
                  cases e : evv v k with
                  | some n => exact ⟨n, rfl⟩
                  | none => exact absurd ((vI_neg (fun w q => by have := hlt w q; omega)).mpr e) h46
                have b2 := hlt n en
                have b3 := jHw_W hw b2
                refine j_aload_n X (q := 50) d_M_hasRead_49 rfl rfl ?_
                refine j_getR X (C := jR5) (T := jT5) (N := 18) (ci := 5) (j := 3) (q := 53) d_M_hasRead_50 ju5 rfl rfl rfl (by decide) wl486 rfl (hC _ _ (by decide)) rfl ?_
                refine j_aload_n X (q := 54) d_M_hasRead_53 rfl rfl ?_
                refine j_getR X (C := jR5) (T := jT5) (N := 18) (ci := 5) (j := 9) (q := 57) d_M_hasRead_54 ju5 rfl rfl rfl (by decide) wl492 rfl (hC _ _ (by decide)) rfl ?_
                refine j_iload X (q := 59) d_M_hasRead_57 rfl rfl ?_
                refine j_iald X (q := 60) d_M_hasRead_59 rfl (by decide) rfl (by omega) (hC _ _ (by decide)) rfl (jMs_v hm (show k < evE v by omega)) ?_
                refine j_iald X (j := n) (q := 61) d_M_hasRead_60 rfl (by decide) (show vI (evv v k) = nI n by rw [en]; rfl) (by omega) (hC _ _ (by decide)) rfl (jMs_W hm b2) ?_
                refine j_iload_n X (q := 62) d_M_hasRead_61 rfl rfl ?_
                refine j_ncmp_ne X (tgt := 69) (q := 65) d_M_hasRead_62 (by decide) rfl (by omega) (by omega) (fun h62 => ?_) (fun h62 => ?_)
                · have _b62 := True.intro
                  refine j_iconst X (v := (nI 0)) (q := 70) d_M_hasRead_69 (by decide +kernel) rfl ?_
                  refine jxW.to (L' := [some (.inr (40, 0)), some (.inl (nI a)), some (.inl (nI b)), some (.inl (jB (jd (∃ e, e < k ∧ jhr h v a b e)))), some (.inl (nI k))]) (by simp [jfg]) ?_
                  refine jxW.cast rfl (show _ = [.inl (jB (jd (∃ e, e < (k + 1) ∧ jhr h v a b e)))] from congrArg (fun z => [Sum.inl z]) (jor0 h15 (fun q => by obtain ⟨q0, q1, w, q2, q3⟩ := q; rw [en] at q2; cases q2; exact h62 q3))) rfl ?_
                  exact J70
                · have _b62 := True.intro
                  refine j_iconst X (v := (nI 1)) (q := 66) d_M_hasRead_65 (by decide +kernel) rfl ?_
                  refine j_goto X (tgt := 70) d_M_hasRead_66 (by decide) ?_
                  refine jxW.to (L' := [some (.inr (40, 0)), some (.inl (nI a)), some (.inl (nI b)), some (.inl (jB (jd (∃ e, e < k ∧ jhr h v a b e)))), some (.inl (nI k))]) (by simp [jfg]) ?_
                  refine jxW.cast rfl (show _ = [.inl (jB (jd (∃ e, e < (k + 1) ∧ jhr h v a b e)))] from congrArg (fun z => [Sum.inl z]) (jor2 ⟨h25, h36, n, en, h62⟩)) rfl ?_
                  exact J70
  refine j_iconst X (v := (nI 0)) (q := 1) d_M_hasRead_0 (by decide +kernel) rfl ?_
  refine j_istore_n X (j := 3) (q := 2) d_M_hasRead_1 rfl (Nat.le_of_ble_eq_true rfl) rfl ?_
  refine j_iconst X (v := (nI 0)) (q := 3) d_M_hasRead_2 (by decide +kernel) rfl ?_
  refine j_istore X (q := 5) d_M_hasRead_3 (Nat.le_of_ble_eq_true rfl) rfl ?_
  refine jxW.to (L' := [some (.inr (40, 0)), some (.inl (nI a)), some (.inl (nI b)), some (.inl (jB (jd (∃ e, e < 0 ∧ jhr h v a b e)))), some (.inl (nI 0))]) (by simp [jfg]; rw [jd_no.mpr id]; rfl) ?_
  exact K 102 0 (by omega) (by omega)
noncomputable def jed (h : jH) (a b : Nat) : Nat := jn (jd (jWW h a b)) 1 + jn (jd (jWR h a b)) 2 + jn (jd (jRW h a b)) 4
theorem jed_8 (h : jH) (a b : Nat) : jed h a b < 8 := by
  unfold jed jn
  repeat' split
  all_goals omega
theorem jfol_WW {h : jH} (hw : jHw h) {a b : Nat} (hne : a ≠ b) : (∃ w, w < hyV h ∧ jfol h a b w) ↔ jWW h a b := by
  constructor
  · rintro ⟨w, hwV, q1, n, q2, q3⟩
    rcases q2 with ⟨z, -⟩ | ⟨i, g1, g2, g3⟩
    · cases z
    · rcases g2 with ⟨z, -⟩ | ⟨g4, g5⟩
      · cases z
      · cases g3
        have e : w = hyod h (hyI h w) (i - 1) := Option.some.inj g5
        exact ⟨hyI h w, jHw_I hw hwV, i, g4, g1, by rw [← e]; exact q1, q3, hne⟩
  · rintro ⟨x, hx, i, h1, h2, h3, h4, h5⟩
    have o1 := jHw_od hw hx (show i - 1 < hyon h x by omega)
    refine ⟨hyod h x (i - 1), o1.1, h3, hyod h x i, Or.inr ⟨i, by rw [o1.2.1]; exact h2, Or.inr ⟨h1, by rw [o1.2.1]⟩, by rw [o1.2.1]⟩, h4⟩
theorem jhr_WR {h : jH} {v : jV} (hv : jVc h v) {a b : Nat} (hne : a ≠ b) (ha : hyS h a = 2) (hb : hyS h b = 2) : (∃ e, e < evE v ∧ jhr h v b a e) ↔ jWR h a b := by
  obtain ⟨-, -, -, -, ⟨pe, p1, p2⟩, -⟩ := hv
  constructor
  · rintro ⟨e, he, q0, q1, w, q2, q3⟩
    obtain ⟨r, hr, rfl⟩ := p2 e he q0
    obtain ⟨r1, r2, r3, r4, r5, r6⟩ := p1 r hr
    refine ⟨r, hr, by rw [← r3, q1]; exact hb, w, by rw [← r5]; exact q2, by rw [q3]; exact ha, q3.symm, by rw [← r3, q1], by rw [q3, ← r3, q1]; exact hne⟩
  · rintro ⟨r, hr, hc, w, q1, q2, rfl, rfl, q3⟩
    obtain ⟨r1, r2, r3, r4, r5, r6⟩ := p1 r hr
    exact ⟨pe r, r1, r2, r3, w, by rw [r5]; exact q1, rfl⟩
theorem jovt_RW {h : jH} {v : jV} (hw : jHw h) (hv : jVc h v) {a b : Nat} (hne : a ≠ b) (ha : hyS h a = 2) : (∃ e, e < evE v ∧ jovt h v a b e) ↔ jRW h a b := by
  obtain ⟨-, -, -, -, ⟨pe, p1, p2⟩, -⟩ := hv
  constructor
  · rintro ⟨e, he, q0, q1, n, q2, q3⟩
    obtain ⟨r, hr, rfl⟩ := p2 e he q0
    obtain ⟨r1, r2, r3, r4, r5, r6⟩ := p1 r hr
    rw [r4, r5] at q2
    have := jnv_nwr q2
    refine ⟨r, hr, by rw [← r3, q1]; exact ha, b, by rw [← q3]; exact this, by rw [← r3, q1], rfl, by rw [← r3, q1]; exact hne⟩
  · rintro ⟨r, hr, hc, w, q1, rfl, rfl, q3⟩
    obtain ⟨r1, r2, r3, r4, r5, r6⟩ := p1 r hr
    rcases q1 with ⟨z, -⟩ | ⟨i, g1, g2, g3⟩
    · cases z
    · cases g3
      exact ⟨pe r, r1, r2, r3, hyod h (hyri h r) i, by rw [r4, r5]; exact Or.inr ⟨i, g1, g2, rfl⟩, rfl⟩
set_option maxRecDepth 100000 in
set_option maxHeartbeats 4000000 in
theorem c_M_edge {l : Launch} {Θ : jxT} (hI : jxI Θ) (hC : ∀ g r, r < jrwM g → Θ.2.2.2 g r) {h : jH} {v : jV} {σ : jxM} (hw : jHw h) (hv : jVc h v) (hm : jMs h v σ) {a b : Nat} (ha : a < 8) (hb : b < 8) : jxMet l y_M_edge b_M_edge 3 (some FieldType.int) (jrm 3) Θ [.inr (40, 0), .inl (nI a), .inl (nI b)] σ (jan (nI (jed h a b)) σ) := by
  refine jxMet.of (own := "HistoryJudgeModel") hI (by decide) rfl (Nat.le_of_ble_eq_true rfl) (fun Γ X => ?_)
  show jxW Γ Θ (jan (nI (jed h a b)) σ) 0 [some (.inr (40, 0)), some (.inl (nI a)), some (.inl (nI b))] [] σ
  refine j_iload_n X (q := 1) d_M_edge_0 rfl rfl ?_
  refine j_iload_n X (q := 2) d_M_edge_1 rfl rfl ?_
  refine j_ncmp_eq X (tgt := 21) (q := 5) d_M_edge_2 (by decide) rfl (by omega) (by omega) (fun h2 => ?_) (fun h2 => ?_)
  · have _b2 := True.intro
    have hno : ¬ (a ≠ b ∧ hyS h a = 2 ∧ hyS h b = 2) := fun q => q.1 h2
    refine j_iconst X (v := (nI 0)) (q := 22) d_M_edge_21 (by decide +kernel) rfl ?_
    refine j_iret X d_M_edge_22 ?_
    exact ⟨by unfold jed; rw [jd_no.mpr (fun q => hno (jWW_c hw q)), jd_no.mpr (fun q => hno (jWR_c q)), jd_no.mpr (fun q => hno (jRW_c hw q))]; rfl, rfl⟩
  · have _b2 := True.intro
    refine j_aload_n X (q := 6) d_M_edge_5 rfl rfl ?_
    refine j_iload_n X (q := 7) d_M_edge_6 rfl rfl ?_
    refine j_callV X (n := 1) (C := jR5) (T := jT5) (N := 18) d_M_edge_7 (c_M_isCommitted hI hC hw hv hm ha) rfl rfl (hC _ _ (by decide)) wl574 wl575 wl19 wl42 wl576 (by decide +kernel) ⟨rfl, rfl⟩ (by decide) rfl rfl (Nat.le_of_ble_eq_true rfl) rfl (q := 10) rfl (fun r7 τ7 e7 => ?_)
    obtain ⟨rfl, rfl⟩ := e7
    refine j_bif_eq X (tgt := 21) (q := 13) d_M_edge_10 (by decide) rfl (fun h10 => ?_) (fun h10 => ?_)
    · have _b10 := True.intro
      have hno : ¬ (a ≠ b ∧ hyS h a = 2 ∧ hyS h b = 2) := fun q => by rw [decide_eq_true q.2.1] at h10; cases h10
      refine j_iconst X (v := (nI 0)) (q := 22) d_M_edge_21 (by decide +kernel) rfl ?_
      refine j_iret X d_M_edge_22 ?_
      exact ⟨by unfold jed; rw [jd_no.mpr (fun q => hno (jWW_c hw q)), jd_no.mpr (fun q => hno (jWR_c q)), jd_no.mpr (fun q => hno (jRW_c hw q))]; rfl, rfl⟩
    · have _b10 := True.intro
      refine j_aload_n X (q := 14) d_M_edge_13 rfl rfl ?_
      refine j_iload_n X (q := 15) d_M_edge_14 rfl rfl ?_
      refine j_callV X (n := 1) (C := jR5) (T := jT5) (N := 18) d_M_edge_15 (c_M_isCommitted hI hC hw hv hm hb) rfl rfl (hC _ _ (by decide)) wl574 wl575 wl19 wl42 wl576 (by decide +kernel) ⟨rfl, rfl⟩ (by decide) rfl rfl (Nat.le_of_ble_eq_true rfl) rfl (q := 18) rfl (fun r15 τ15 e15 => ?_)
      obtain ⟨rfl, rfl⟩ := e15
      refine j_bif_ne X (tgt := 23) (q := 21) d_M_edge_18 (by decide) rfl (fun h18 => ?_) (fun h18 => ?_)
      · have _b18 := True.intro
        refine j_aload_n X (q := 24) d_M_edge_23 rfl rfl ?_
        refine j_iload_n X (q := 25) d_M_edge_24 rfl rfl ?_
        refine j_iload_n X (q := 26) d_M_edge_25 rfl rfl ?_
        refine j_callV X (n := 2) (C := jR5) (T := jT5) (N := 18) d_M_edge_26 (c_M_follows hI hC hw hv hm ha hb) rfl rfl (hC _ _ (by decide)) wl577 wl578 wl20 wl42 wl579 (by decide +kernel) ⟨rfl, rfl⟩ (by decide) rfl rfl (Nat.le_of_ble_eq_true rfl) rfl (q := 29) rfl (fun r26 τ26 e26 => ?_)
        obtain ⟨rfl, rfl⟩ := e26
        refine j_bif_eq X (tgt := 36) (q := 32) d_M_edge_29 (by decide) rfl (fun h29 => ?_) (fun h29 => ?_)
        · have _b29 := True.intro
          refine j_iconst X (v := (nI 0)) (q := 37) d_M_edge_36 (by decide +kernel) rfl ?_
          refine j_aload_n X (q := 38) d_M_edge_37 rfl rfl ?_
          refine j_iload_n X (q := 39) d_M_edge_38 rfl rfl ?_
          refine j_iload_n X (q := 40) d_M_edge_39 rfl rfl ?_
          refine j_callV X (n := 2) (C := jR5) (T := jT5) (N := 18) d_M_edge_40 (c_M_hasRead hI hC hw hv hm hb ha) rfl rfl (hC _ _ (by decide)) wl583 wl584 wl22 wl42 wl585 (by decide +kernel) ⟨rfl, rfl⟩ (by decide) rfl rfl (Nat.le_of_ble_eq_true rfl) rfl (q := 43) rfl (fun r40 τ40 e40 => ?_)
          obtain ⟨rfl, rfl⟩ := e40
          refine j_bif_eq X (tgt := 50) (q := 46) d_M_edge_43 (by decide) rfl (fun h43 => ?_) (fun h43 => ?_)
          · have _b43 := True.intro
            refine j_iconst X (v := (nI 0)) (q := 51) d_M_edge_50 (by decide +kernel) rfl ?_
            refine j_iadd X (q := 52) d_M_edge_51 rfl ?_
            refine j_aload_n X (q := 53) d_M_edge_52 rfl rfl ?_
            refine j_iload_n X (q := 54) d_M_edge_53 rfl rfl ?_
            refine j_iload_n X (q := 55) d_M_edge_54 rfl rfl ?_
            refine j_callV X (n := 2) (C := jR5) (T := jT5) (N := 18) d_M_edge_55 (c_M_overtaken hI hC hw hv hm ha hb) rfl rfl (hC _ _ (by decide)) wl586 wl587 wl23 wl42 wl588 (by decide +kernel) ⟨rfl, rfl⟩ (by decide) rfl rfl (Nat.le_of_ble_eq_true rfl) rfl (q := 58) rfl (fun r55 τ55 e55 => ?_)
            obtain ⟨rfl, rfl⟩ := e55
            refine j_bif_eq X (tgt := 65) (q := 61) d_M_edge_58 (by decide) rfl (fun h58 => ?_) (fun h58 => ?_)
            · have _b58 := True.intro
              refine j_iconst X (v := (nI 0)) (q := 66) d_M_edge_65 (by decide +kernel) rfl ?_
              refine j_iadd X (q := 67) d_M_edge_66 rfl ?_
              refine j_iret X d_M_edge_67 ?_
              refine ⟨?_, rfl⟩
              have ca : hyS h a = 2 := by simpa using h10
              have cb : hyS h b = 2 := by simpa using h18
              rw [jd_ext (jfol_WW hw h2)] at h29
              rw [jd_ext (jhr_WR hv h2 ca cb)] at h43
              rw [jd_ext (jovt_RW hw hv h2 ca)] at h58
              unfold jed
              rw [h29, h43, h58]
              simp only [nI_add, jn]
              rfl
            · have _b58 := True.intro
              refine j_iconst X (v := (nI 4)) (q := 62) d_M_edge_61 (by decide +kernel) rfl ?_
              refine j_goto X (tgt := 66) d_M_edge_62 (by decide) ?_
              refine j_iadd X (q := 67) d_M_edge_66 rfl ?_
              refine j_iret X d_M_edge_67 ?_
              refine ⟨?_, rfl⟩
              have ca : hyS h a = 2 := by simpa using h10
              have cb : hyS h b = 2 := by simpa using h18
              rw [jd_ext (jfol_WW hw h2)] at h29
              rw [jd_ext (jhr_WR hv h2 ca cb)] at h43
              rw [jd_ext (jovt_RW hw hv h2 ca)] at h58
              unfold jed
              rw [h29, h43, h58]
              simp only [nI_add, jn]
              rfl
          · have _b43 := True.intro
            refine j_iconst X (v := (nI 2)) (q := 47) d_M_edge_46 (by decide +kernel) rfl ?_
            refine j_goto X (tgt := 51) d_M_edge_47 (by decide) ?_
            refine j_iadd X (q := 52) d_M_edge_51 rfl ?_
            refine j_aload_n X (q := 53) d_M_edge_52 rfl rfl ?_
            refine j_iload_n X (q := 54) d_M_edge_53 rfl rfl ?_
            refine j_iload_n X (q := 55) d_M_edge_54 rfl rfl ?_
            refine j_callV X (n := 2) (C := jR5) (T := jT5) (N := 18) d_M_edge_55 (c_M_overtaken hI hC hw hv hm ha hb) rfl rfl (hC _ _ (by decide)) wl586 wl587 wl23 wl42 wl588 (by decide +kernel) ⟨rfl, rfl⟩ (by decide) rfl rfl (Nat.le_of_ble_eq_true rfl) rfl (q := 58) rfl (fun r55 τ55 e55 => ?_)
            obtain ⟨rfl, rfl⟩ := e55
            refine j_bif_eq X (tgt := 65) (q := 61) d_M_edge_58 (by decide) rfl (fun h58 => ?_) (fun h58 => ?_)
            · have _b58 := True.intro
              refine j_iconst X (v := (nI 0)) (q := 66) d_M_edge_65 (by decide +kernel) rfl ?_
              refine j_iadd X (q := 67) d_M_edge_66 rfl ?_
              refine j_iret X d_M_edge_67 ?_
              refine ⟨?_, rfl⟩
              have ca : hyS h a = 2 := by simpa using h10
              have cb : hyS h b = 2 := by simpa using h18
              rw [jd_ext (jfol_WW hw h2)] at h29
              rw [jd_ext (jhr_WR hv h2 ca cb)] at h43
              rw [jd_ext (jovt_RW hw hv h2 ca)] at h58
              unfold jed
              rw [h29, h43, h58]
              simp only [nI_add, jn]
              rfl
            · have _b58 := True.intro
              refine j_iconst X (v := (nI 4)) (q := 62) d_M_edge_61 (by decide +kernel) rfl ?_
              refine j_goto X (tgt := 66) d_M_edge_62 (by decide) ?_
              refine j_iadd X (q := 67) d_M_edge_66 rfl ?_
              refine j_iret X d_M_edge_67 ?_
              refine ⟨?_, rfl⟩
              have ca : hyS h a = 2 := by simpa using h10
              have cb : hyS h b = 2 := by simpa using h18
              rw [jd_ext (jfol_WW hw h2)] at h29
              rw [jd_ext (jhr_WR hv h2 ca cb)] at h43
              rw [jd_ext (jovt_RW hw hv h2 ca)] at h58
              unfold jed
              rw [h29, h43, h58]
              simp only [nI_add, jn]
              rfl
        · have _b29 := True.intro
          refine j_iconst X (v := (nI 1)) (q := 33) d_M_edge_32 (by decide +kernel) rfl ?_
          refine j_goto X (tgt := 37) d_M_edge_33 (by decide) ?_
          refine j_aload_n X (q := 38) d_M_edge_37 rfl rfl ?_
          refine j_iload_n X (q := 39) d_M_edge_38 rfl rfl ?_
          refine j_iload_n X (q := 40) d_M_edge_39 rfl rfl ?_
          refine j_callV X (n := 2) (C := jR5) (T := jT5) (N := 18) d_M_edge_40 (c_M_hasRead hI hC hw hv hm hb ha) rfl rfl (hC _ _ (by decide)) wl583 wl584 wl22 wl42 wl585 (by decide +kernel) ⟨rfl, rfl⟩ (by decide) rfl rfl (Nat.le_of_ble_eq_true rfl) rfl (q := 43) rfl (fun r40 τ40 e40 => ?_)
          obtain ⟨rfl, rfl⟩ := e40
          refine j_bif_eq X (tgt := 50) (q := 46) d_M_edge_43 (by decide) rfl (fun h43 => ?_) (fun h43 => ?_)
          · have _b43 := True.intro
            refine j_iconst X (v := (nI 0)) (q := 51) d_M_edge_50 (by decide +kernel) rfl ?_
            refine j_iadd X (q := 52) d_M_edge_51 rfl ?_
            refine j_aload_n X (q := 53) d_M_edge_52 rfl rfl ?_
            refine j_iload_n X (q := 54) d_M_edge_53 rfl rfl ?_
            refine j_iload_n X (q := 55) d_M_edge_54 rfl rfl ?_
            refine j_callV X (n := 2) (C := jR5) (T := jT5) (N := 18) d_M_edge_55 (c_M_overtaken hI hC hw hv hm ha hb) rfl rfl (hC _ _ (by decide)) wl586 wl587 wl23 wl42 wl588 (by decide +kernel) ⟨rfl, rfl⟩ (by decide) rfl rfl (Nat.le_of_ble_eq_true rfl) rfl (q := 58) rfl (fun r55 τ55 e55 => ?_)
            obtain ⟨rfl, rfl⟩ := e55
            refine j_bif_eq X (tgt := 65) (q := 61) d_M_edge_58 (by decide) rfl (fun h58 => ?_) (fun h58 => ?_)
            · have _b58 := True.intro
              refine j_iconst X (v := (nI 0)) (q := 66) d_M_edge_65 (by decide +kernel) rfl ?_
              refine j_iadd X (q := 67) d_M_edge_66 rfl ?_
              refine j_iret X d_M_edge_67 ?_
              refine ⟨?_, rfl⟩
              have ca : hyS h a = 2 := by simpa using h10
              have cb : hyS h b = 2 := by simpa using h18
              rw [jd_ext (jfol_WW hw h2)] at h29
              rw [jd_ext (jhr_WR hv h2 ca cb)] at h43
              rw [jd_ext (jovt_RW hw hv h2 ca)] at h58
              unfold jed
              rw [h29, h43, h58]
              simp only [nI_add, jn]
              rfl
            · have _b58 := True.intro
              refine j_iconst X (v := (nI 4)) (q := 62) d_M_edge_61 (by decide +kernel) rfl ?_
              refine j_goto X (tgt := 66) d_M_edge_62 (by decide) ?_
              refine j_iadd X (q := 67) d_M_edge_66 rfl ?_
              refine j_iret X d_M_edge_67 ?_
              refine ⟨?_, rfl⟩
              have ca : hyS h a = 2 := by simpa using h10
              have cb : hyS h b = 2 := by simpa using h18
              rw [jd_ext (jfol_WW hw h2)] at h29
              rw [jd_ext (jhr_WR hv h2 ca cb)] at h43
              rw [jd_ext (jovt_RW hw hv h2 ca)] at h58
              unfold jed
              rw [h29, h43, h58]
              simp only [nI_add, jn]
              rfl
          · have _b43 := True.intro
            refine j_iconst X (v := (nI 2)) (q := 47) d_M_edge_46 (by decide +kernel) rfl ?_
            refine j_goto X (tgt := 51) d_M_edge_47 (by decide) ?_
            refine j_iadd X (q := 52) d_M_edge_51 rfl ?_
            refine j_aload_n X (q := 53) d_M_edge_52 rfl rfl ?_
            refine j_iload_n X (q := 54) d_M_edge_53 rfl rfl ?_
            refine j_iload_n X (q := 55) d_M_edge_54 rfl rfl ?_
            refine j_callV X (n := 2) (C := jR5) (T := jT5) (N := 18) d_M_edge_55 (c_M_overtaken hI hC hw hv hm ha hb) rfl rfl (hC _ _ (by decide)) wl586 wl587 wl23 wl42 wl588 (by decide +kernel) ⟨rfl, rfl⟩ (by decide) rfl rfl (Nat.le_of_ble_eq_true rfl) rfl (q := 58) rfl (fun r55 τ55 e55 => ?_)
            obtain ⟨rfl, rfl⟩ := e55
            refine j_bif_eq X (tgt := 65) (q := 61) d_M_edge_58 (by decide) rfl (fun h58 => ?_) (fun h58 => ?_)
            · have _b58 := True.intro
              refine j_iconst X (v := (nI 0)) (q := 66) d_M_edge_65 (by decide +kernel) rfl ?_
              refine j_iadd X (q := 67) d_M_edge_66 rfl ?_
              refine j_iret X d_M_edge_67 ?_
              refine ⟨?_, rfl⟩
              have ca : hyS h a = 2 := by simpa using h10
              have cb : hyS h b = 2 := by simpa using h18
              rw [jd_ext (jfol_WW hw h2)] at h29
              rw [jd_ext (jhr_WR hv h2 ca cb)] at h43
              rw [jd_ext (jovt_RW hw hv h2 ca)] at h58
              unfold jed
              rw [h29, h43, h58]
              simp only [nI_add, jn]
              rfl
            · have _b58 := True.intro
              refine j_iconst X (v := (nI 4)) (q := 62) d_M_edge_61 (by decide +kernel) rfl ?_
              refine j_goto X (tgt := 66) d_M_edge_62 (by decide) ?_
              refine j_iadd X (q := 67) d_M_edge_66 rfl ?_
              refine j_iret X d_M_edge_67 ?_
              refine ⟨?_, rfl⟩
              have ca : hyS h a = 2 := by simpa using h10
              have cb : hyS h b = 2 := by simpa using h18
              rw [jd_ext (jfol_WW hw h2)] at h29
              rw [jd_ext (jhr_WR hv h2 ca cb)] at h43
              rw [jd_ext (jovt_RW hw hv h2 ca)] at h58
              unfold jed
              rw [h29, h43, h58]
              simp only [nI_add, jn]
              rfl
      · have _b18 := True.intro
        have hno : ¬ (a ≠ b ∧ hyS h a = 2 ∧ hyS h b = 2) := fun q => by rw [decide_eq_true q.2.2] at h18; cases h18
        refine j_iconst X (v := (nI 0)) (q := 22) d_M_edge_21 (by decide +kernel) rfl ?_
        refine j_iret X d_M_edge_22 ?_
        exact ⟨by unfold jed; rw [jd_no.mpr (fun q => hno (jWW_c hw q)), jd_no.mpr (fun q => hno (jWR_c q)), jd_no.mpr (fun q => hno (jRW_c hw q))]; rfl, rfl⟩
set_option maxRecDepth 100000 in
set_option maxHeartbeats 4000000 in
theorem c_M_draw {l : Launch} {Θ : jxT} (hI : jxI Θ) (hC : ∀ g r, r < jrwM g → Θ.2.2.2 g r) {h : jH} {v : jV} {σ : jxM} (hw : jHw h) (hv : jVc h v) (hm : jMs h v σ)  : jxMet l y_M_draw b_M_draw 3 none (jrm 4) Θ [.inr (40, 0)] σ (fun r' σ' => r' = none ∧ (∀ a' b', a' < 8 → b' < 8 → σ' 50 0 (8 * a' + b') = nI (jed h a' b')) ∧ ∀ g', g' ≠ 50 → σ' g' = σ g') := by
  refine jxMet.of (own := "HistoryJudgeModel") hI (by decide) rfl (Nat.le_of_ble_eq_true rfl) (fun Γ X => ?_)
  show jxW Γ Θ (fun r' σ' => r' = none ∧ (∀ a' b', a' < 8 → b' < 8 → σ' 50 0 (8 * a' + b') = nI (jed h a' b')) ∧ ∀ g', g' ≠ 50 → σ' g' = σ g') 0 [some (.inr (40, 0)), none, none] [] σ
  have K : ∀ (N : Nat) (a : Nat) (σ1 : jxM), 8 - a < N → a ≤ 8 → (∀ a' b', a' < 8 → b' < 8 → 8 * a' + b' < 8 * a → σ1 50 0 (8 * a' + b') = nI (jed h a' b')) → (∀ g', g' ≠ 50 → σ1 g' = σ g') → jxW Γ Θ (fun r' σ' => r' = none ∧ (∀ a' b', a' < 8 → b' < 8 → σ' 50 0 (8 * a' + b') = nI (jed h a' b')) ∧ ∀ g', g' ≠ 50 → σ' g' = σ g') 2 [some (.inr (40, 0)), some (.inl (nI a)), none] [] σ1 := by
    intro N
    induction N with
    | zero => intro a σ1 hn; exact absurd hn (Nat.not_lt_zero _)
    | succ N ih =>
      intro a σ1 hn ha hd1 hf1
      refine j_iload_n X (q := 3) d_M_draw_2 rfl rfl ?_
      refine j_bipush X (v := (nI 8)) (q := 5) d_M_draw_3 (by decide +kernel) rfl ?_
      refine j_ncmp_ge X (tgt := 45) (q := 8) d_M_draw_5 (by decide) rfl (by omega) (by omega) (fun h5 => ?_) (fun h5 => ?_)
      · have _b5 := True.intro
        refine j_vret X d_M_draw_45 ?_
        exact ⟨rfl, fun a' b' h1 h2 => hd1 a' b' h1 h2 (by omega), hf1⟩
      · have _b5 := True.intro
        have KB : ∀ (N : Nat) (b : Nat) (σ1 : jxM), 8 - b < N → b ≤ 8 → (∀ a' b', a' < 8 → b' < 8 → 8 * a' + b' < 8 * a + b → σ1 50 0 (8 * a' + b') = nI (jed h a' b')) → (∀ g', g' ≠ 50 → σ1 g' = σ g') → jxW Γ Θ (fun r' σ' => r' = none ∧ (∀ a' b', a' < 8 → b' < 8 → σ' 50 0 (8 * a' + b') = nI (jed h a' b')) ∧ ∀ g', g' ≠ 50 → σ' g' = σ g') 10 [some (.inr (40, 0)), some (.inl (nI a)), some (.inl (nI b))] [] σ1 := by
          intro N
          induction N with
          | zero => intro b σ1 hn; exact absurd hn (Nat.not_lt_zero _)
          | succ N ih2 =>
            intro b σ1 hn hb hd1 hf1
            refine j_iload_n X (q := 11) d_M_draw_10 rfl rfl ?_
            refine j_bipush X (v := (nI 8)) (q := 13) d_M_draw_11 (by decide +kernel) rfl ?_
            refine j_ncmp_ge X (tgt := 39) (q := 16) d_M_draw_13 (by decide) rfl (by omega) (by omega) (fun h13 => ?_) (fun h13 => ?_)
            · have _b13 := True.intro
              refine j_iinc X (q := 42) d_M_draw_39 rfl (j_inc1 _) rfl ?_
              refine j_goto X (tgt := 2) d_M_draw_42 (by decide) ?_
              refine jxW.to (L' := [some (.inr (40, 0)), some (.inl (nI (a + 1))), none]) (by simp [jfg]) ?_
              exact ih (a + 1) _ (by omega) (by omega) (fun a' b' h1 h2 h3 => hd1 a' b' h1 h2 (by omega)) hf1
            · have _b13 := True.intro
              refine j_aload_n X (q := 17) d_M_draw_16 rfl rfl ?_
              refine j_getR X (C := jR5) (T := jT5) (N := 18) (ci := 5) (j := 13) (q := 20) d_M_draw_17 ju5 rfl rfl rfl (by decide) wl496 rfl (hC _ _ (by decide)) rfl ?_
              refine j_bipush X (v := (nI 8)) (q := 22) d_M_draw_20 (by decide +kernel) rfl ?_
              refine j_iload_n X (q := 23) d_M_draw_22 rfl rfl ?_
              refine j_imul X (q := 24) d_M_draw_23 rfl ?_
              refine j_iload_n X (q := 25) d_M_draw_24 rfl rfl ?_
              refine j_iadd X (q := 26) d_M_draw_25 rfl ?_
              refine j_aload_n X (q := 27) d_M_draw_26 rfl rfl ?_
              refine j_iload_n X (q := 28) d_M_draw_27 rfl rfl ?_
              refine j_iload_n X (q := 29) d_M_draw_28 rfl rfl ?_
              refine j_callV X (n := 2) (C := jR5) (T := jT5) (N := 18) d_M_draw_29 (c_M_edge hI hC hw hv (jMs_keep hm ⟨fun g h1 h2 => hf1 g (by omega), fun j _ _ => by rw [hf1 40 (by decide)]⟩) (a := a) (b := b) (by omega) (by omega)) rfl rfl (hC _ _ (by decide)) wl571 wl572 wl18 wl42 wl573 (by decide +kernel) ⟨rfl, rfl⟩ (by decide) rfl rfl (Nat.le_of_ble_eq_true rfl) rfl (q := 32) rfl (fun r29 τ29 e29 => ?_)
              obtain ⟨rfl, rfl⟩ := e29
              refine j_iast X (j := 8 * a + b) (q := 33) d_M_draw_32 rfl (by decide) (j_ix 8 a b) (by omega) (hC _ _ (by decide)) rfl ?_
              refine j_iinc X (q := 36) d_M_draw_33 rfl (j_inc1 _) rfl ?_
              refine j_goto X (tgt := 10) d_M_draw_36 (by decide) ?_
              refine ih2 (b + 1) _ (by omega) (by omega) (fun a' b' h1 h2 h3 => ?_) (fun g' hg => by rw [jxs_g _ _ _ _ _ hg, hf1 g' hg])
              rw [jxs_at]
              by_cases e : 8 * a' + b' = 8 * a + b
              · have e1 : a' = a := by omega
                have e2 : b' = b := by omega
                subst e1; subst e2
                rw [if_pos ⟨rfl, rfl, rfl⟩]
              · rw [if_neg (fun q => e q.2.2)]
                exact hd1 a' b' h1 h2 (by omega)
        refine j_iconst X (v := (nI 0)) (q := 9) d_M_draw_8 (by decide +kernel) rfl ?_
        refine j_istore_n X (j := 2) (q := 10) d_M_draw_9 rfl (Nat.le_of_ble_eq_true rfl) rfl ?_
        refine jxW.to (L' := [some (.inr (40, 0)), some (.inl (nI a)), some (.inl (nI 0))]) (by simp [jfg]) ?_
        exact KB 9 0 σ1 (by omega) (by omega) hd1 hf1
  refine j_iconst X (v := (nI 0)) (q := 1) d_M_draw_0 (by decide +kernel) rfl ?_
  refine j_istore_n X (j := 1) (q := 2) d_M_draw_1 rfl (Nat.le_of_ble_eq_true rfl) rfl ?_
  refine jxW.to (L' := [some (.inr (40, 0)), some (.inl (nI 0)), none]) (by simp [jfg]) ?_
  exact K 9 0 σ (by omega) (by omega) (fun a' b' _ _ q => by omega) (fun _ _ => rfl)
set_option maxRecDepth 100000 in
set_option maxHeartbeats 4000000 in
theorem c_M_edges {l : Launch} {Θ : jxT} (hI : jxI Θ) (hC : ∀ g r, r < jrwM g → Θ.2.2.2 g r) {h : jH} {v : jV} {σ : jxM} (hw : jHw h) (hv : jVc h v) (hm : jMs h v σ) (x y : Int32) : jxMet l y_M_edges b_M_edges 3 (some FieldType.int) (jrm 5) Θ [.inr (40, 0), .inl x, .inl y] σ (fun r' σ' => r' = some (.inl (if jin x 8 = true ∧ jin y 8 = true then nI (jed h x.toNatClampNeg y.toNatClampNeg) else nI 0)) ∧ jfm σ σ') := by
  refine jxMet.of (own := "HistoryJudgeModel") hI (by decide) rfl (Nat.le_of_ble_eq_true rfl) (fun Γ X => ?_)
  show jxW Γ Θ (fun r' σ' => r' = some (.inl (if jin x 8 = true ∧ jin y 8 = true then nI (jed h x.toNatClampNeg y.toNatClampNeg) else nI 0)) ∧ jfm σ σ') 0 [some (.inr (40, 0)), some (.inl x), some (.inl y)] [] σ
  refine j_aload_n X (q := 1) d_M_edges_0 rfl rfl ?_
  refine j_iconst X (v := (nI 0)) (q := 2) d_M_edges_1 (by decide +kernel) rfl ?_
  refine j_putI X (C := jR5) (T := jT5) (N := 18) (ci := 5) (j := 0) (q := 5) d_M_edges_2 ju5 rfl rfl jt5 jt5_ok jn5 rfl (by decide) wl483 rfl (hC _ _ (by decide)) rfl rfl (ty := .int) rfl rfl rfl ?_
  refine j_iload_n X (q := 6) d_M_edges_5 rfl rfl ?_
  refine j_callS X (n := 1) d_M_edges_6 (c_M_isOne hI x _) wl528 wl529 wl42 wl530 (by decide +kernel) ⟨rfl, rfl⟩ (by decide) rfl rfl (Nat.le_of_ble_eq_true rfl) rfl (q := 9) rfl (fun r6 τ6 e6 => ?_)
  obtain ⟨rfl, rfl⟩ := e6
  refine j_bif_eq X (tgt := 28) (q := 12) d_M_edges_9 (by decide) rfl (fun h9 => ?_) (fun h9 => ?_)
  · have _b9 := True.intro
    refine j_iconst X (v := (nI 0)) (q := 29) d_M_edges_28 (by decide +kernel) rfl ?_
    refine j_iret X d_M_edges_29 ?_
    exact ⟨by rw [if_neg (fun q => by rw [h9] at q; cases q.1)], jfm_c⟩
  · have _b9 := True.intro
    refine j_iload_n X (q := 13) d_M_edges_12 rfl rfl ?_
    refine j_callS X (n := 1) d_M_edges_13 (c_M_isOne hI y _) wl528 wl529 wl42 wl530 (by decide +kernel) ⟨rfl, rfl⟩ (by decide) rfl rfl (Nat.le_of_ble_eq_true rfl) rfl (q := 16) rfl (fun r13 τ13 e13 => ?_)
    obtain ⟨rfl, rfl⟩ := e13
    refine j_bif_eq X (tgt := 28) (q := 19) d_M_edges_16 (by decide) rfl (fun h16 => ?_) (fun h16 => ?_)
    · have _b16 := True.intro
      refine j_iconst X (v := (nI 0)) (q := 29) d_M_edges_28 (by decide +kernel) rfl ?_
      refine j_iret X d_M_edges_29 ?_
      exact ⟨by rw [if_neg (fun q => by rw [h16] at q; cases q.2)], jfm_c⟩
    · have _b16 := True.intro
      obtain ⟨a, ha, ea⟩ := jin_of h9 (by decide)
      obtain ⟨b, hb, eb⟩ := jin_of h16 (by decide)
      have ca : x.toNatClampNeg = a := by rw [ea]; exact nI_clamp (by omega)
      have cb : y.toNatClampNeg = b := by rw [eb]; exact nI_clamp (by omega)
      refine j_aload_n X (q := 20) d_M_edges_19 rfl rfl ?_
      refine j_iload_n X (q := 21) d_M_edges_20 rfl rfl ?_
      refine j_iload_n X (q := 22) d_M_edges_21 rfl rfl ?_
      refine jxW.cast rfl (show _ = [.inl (nI b), .inl (nI a), .inr (40, 0)] by rw [ea, eb]; rfl) rfl ?_
      refine j_callV X (n := 2) (C := jR5) (T := jT5) (N := 18) d_M_edges_22 (c_M_edge hI hC hw hv (jMs_keep hm jfm_c) (a := a) (b := b) ha hb) rfl rfl (hC _ _ (by decide)) wl571 wl572 wl18 wl42 wl573 (by decide +kernel) ⟨rfl, rfl⟩ (by decide) rfl rfl (Nat.le_of_ble_eq_true rfl) rfl (q := 25) rfl (fun r22 τ22 e22 => ?_)
      obtain ⟨rfl, rfl⟩ := e22
      refine j_goto X (tgt := 29) d_M_edges_25 (by decide) ?_
      refine j_iret X d_M_edges_29 ?_
      exact ⟨by rw [if_pos ⟨h9, h16⟩, ca, cb], jfm_c⟩
