/-! The search for serial orders: what the reads ask for. -/
/-- what the search holds: committed, who must stand before whom, who must not be cut off, whether it is sound -/
def jZs (C : Nat → Bool) (bf : Nat → Nat → Prop) (rb : Nat → Nat → Nat → Prop) (sd : Bool) (σ : jxM) : Prop :=
  σ 30 0 3 = bI C ∧ σ 30 0 4 = jB sd ∧ (∀ t, t < 8 → σ 31 0 t = bI (fun u => jd (bf t u))) ∧ ∀ w t, w < 8 → t < 8 → σ 33 w t = bI (fun u => jd (rb w t u))
theorem jZs_ext {C : Nat → Bool} {bf bf' : Nat → Nat → Prop} {rb rb' : Nat → Nat → Nat → Prop} {sd sd' : Bool} {σ : jxM} (h : jZs C bf rb sd σ) (e1 : ∀ t u, t < 8 → u < 8 → (bf t u ↔ bf' t u)) (e2 : ∀ w t u, w < 8 → t < 8 → u < 8 → (rb w t u ↔ rb' w t u)) (e3 : sd = sd') : jZs C bf' rb' sd' σ := by
  subst e3
  refine ⟨h.1, h.2.1, fun t ht => ?_, fun w t hw ht => ?_⟩
  · rw [h.2.2.1 t ht]; exact bI_ext (fun u hu => jd_ext (e1 t u ht hu))
  · rw [h.2.2.2 w t hw ht]; exact bI_ext (fun u hu => jd_ext (e2 w t u hw ht hu))
theorem jZs_keep {C : Nat → Bool} {bf : Nat → Nat → Prop} {rb : Nat → Nat → Nat → Prop} {sd : Bool} {σ σ' : jxM} (h : jZs C bf rb sd σ) (e30 : σ' 30 = σ 30) (e31 : σ' 31 = σ 31) (e33 : σ' 33 = σ 33) : jZs C bf rb sd σ' := by
  unfold jZs; rw [e30, e31, e33]; exact h
theorem jZs_bf {C : Nat → Bool} {bf : Nat → Nat → Prop} {rb : Nat → Nat → Nat → Prop} {sd : Bool} {σ : jxM} (h : jZs C bf rb sd σ) {t u : Nat} (ht : t < 8) : jZs C (fun a v => bf a v ∨ (a = t ∧ v = u)) rb sd (jxs σ 31 0 t (bI (fun v => jd (bf t v) || decide (v = u)))) := by
  refine ⟨by rw [jxs_g _ _ _ _ _ (by decide)]; exact h.1, by rw [jxs_g _ _ _ _ _ (by decide)]; exact h.2.1, fun a ha => ?_, fun w a hw ha => by rw [jxs_g _ _ _ _ _ (by decide)]; exact h.2.2.2 w a hw ha⟩
  rw [jxs_at]
  by_cases e : a = t
  · subst e
    rw [if_pos ⟨rfl, rfl, rfl⟩]
    refine bI_ext (fun v hv => ?_)
    rw [Bool.eq_iff_iff, Bool.or_eq_true, jd_iff, jd_iff, decide_eq_true_eq]
    exact ⟨fun q => q.elim Or.inl (fun z => Or.inr ⟨rfl, z⟩), fun q => q.elim Or.inl (fun z => Or.inr z.2)⟩
  · rw [if_neg (fun q => e q.2.2), h.2.2.1 a ha]
    exact bI_ext (fun v hv => jd_ext ⟨Or.inl, fun q => q.elim id (fun z => absurd z.1 e)⟩)
theorem jZs_rb {C : Nat → Bool} {bf : Nat → Nat → Prop} {rb : Nat → Nat → Nat → Prop} {sd : Bool} {σ : jxM} (h : jZs C bf rb sd σ) {w t u : Nat} (hw : w < 8) (ht : t < 8) : jZs C bf (fun w' a v => rb w' a v ∨ (w' = w ∧ a = t ∧ v = u)) sd (jxs σ 33 w t (bI (fun v => jd (rb w t v) || decide (v = u)))) := by
  refine ⟨by rw [jxs_g _ _ _ _ _ (by decide)]; exact h.1, by rw [jxs_g _ _ _ _ _ (by decide)]; exact h.2.1, fun a ha => by rw [jxs_g _ _ _ _ _ (by decide)]; exact h.2.2.1 a ha, fun w' a hw' ha => ?_⟩
  rw [jxs_at]
  by_cases e : w' = w ∧ a = t
  · obtain ⟨rfl, rfl⟩ := e
    rw [if_pos ⟨rfl, rfl, rfl⟩]
    refine bI_ext (fun v hv => ?_)
    rw [Bool.eq_iff_iff, Bool.or_eq_true, jd_iff, jd_iff, decide_eq_true_eq]
    exact ⟨fun q => q.elim Or.inl (fun z => Or.inr ⟨rfl, rfl, z⟩), fun q => q.elim Or.inl (fun z => Or.inr z.2.2)⟩
  · rw [if_neg (fun q => e q.2), h.2.2.2 w' a hw' ha]
    exact bI_ext (fun v hv => jd_ext ⟨Or.inl, fun q => q.elim id (fun z => absurd ⟨z.1, z.2.1⟩ e)⟩)
theorem jsomeN {o : Option Nat} : o.isSome = true ↔ o ≠ none := by cases o <;> simp
set_option maxRecDepth 100000 in
set_option maxHeartbeats 4000000 in
theorem c_S_takeFirstRead {l : Launch} {Θ : jxT} (hI : jxI Θ) (hC : ∀ g r, r < jrwJ g → Θ.2.2.2 g r) {h : jH} {σ : jxM} (hw : jHw h) (hs : jHs h σ) {C : Nat → Bool} {bf : Nat → Nat → Prop} {rb : Nat → Nat → Nat → Prop} {sd : Bool} (hz : jZs C bf rb sd σ) {u x : Nat} (hu : u < 8) (hx : x < 6) : jxMet l y_S_takeFirstRead b_S_takeFirstRead 5 none (jrm 3) Θ [.inr (30, 0), .inr (1, 0), .inl (nI u), .inl (nI x)] σ (fun r' σ' => r' = none ∧ jZs C (fun a v => bf a v ∨ (a ≠ u ∧ C a = true ∧ hylt h a x ≠ none ∧ v = u)) rb sd σ' ∧ ∀ g', g' ≠ 31 → σ' g' = σ g') := by
  refine jxMet.of (own := "HistoryJudge$SerialSearch") hI (by decide) rfl (Nat.le_of_ble_eq_true rfl) (fun Γ X => ?_)
  show jxW Γ Θ (fun r' σ' => r' = none ∧ jZs C (fun a v => bf a v ∨ (a ≠ u ∧ C a = true ∧ hylt h a x ≠ none ∧ v = u)) rb sd σ' ∧ ∀ g', g' ≠ 31 → σ' g' = σ g') 0 [some (.inr (30, 0)), some (.inr (1, 0)), some (.inl (nI u)), some (.inl (nI x)), none] [] σ
  have K : ∀ (N : Nat) (t : Nat) (σ1 : jxM), 8 - t < N → t ≤ 8 → jZs C (fun a v => bf a v ∨ (a < t ∧ a ≠ u ∧ C a = true ∧ hylt h a x ≠ none ∧ v = u)) rb sd σ1 → (∀ g', g' ≠ 31 → σ1 g' = σ g') → jxW Γ Θ (fun r' σ' => r' = none ∧ jZs C (fun a v => bf a v ∨ (a ≠ u ∧ C a = true ∧ hylt h a x ≠ none ∧ v = u)) rb sd σ' ∧ ∀ g', g' ≠ 31 → σ' g' = σ g') 3 [some (.inr (30, 0)), some (.inr (1, 0)), some (.inl (nI u)), some (.inl (nI x)), some (.inl (nI t))] [] σ1 := by
    intro N
    induction N with
    | zero => intro t σ1 hn; exact absurd hn (Nat.not_lt_zero _)
    | succ N ih =>
      intro t σ1 hn ht hz1 hf1
      refine j_iload X (q := 5) d_S_takeFirstRead_3 rfl rfl ?_
      refine j_bipush X (v := (nI 8)) (q := 7) d_S_takeFirstRead_5 (by decide +kernel) rfl ?_
      refine j_ncmp_ge X (tgt := 58) (q := 10) d_S_takeFirstRead_7 (by decide) rfl (by omega) (by omega) (fun h7 => ?_) (fun h7 => ?_)
      · have _b7 := True.intro
        refine j_vret X d_S_takeFirstRead_58 ?_
        exact ⟨rfl, jZs_ext hz1 (fun a v ha _ => ⟨fun q => q.elim Or.inl (fun z => Or.inr z.2), fun q => q.elim Or.inl (fun z => Or.inr ⟨by omega, z⟩)⟩) (fun _ _ _ _ _ _ => Iff.rfl) rfl, hf1⟩
      · have _b7 := True.intro
        have hs1 : jHs h σ1 := jHs_keep hs (fun g hg => hf1 g (by omega))
        refine j_iload X (q := 12) d_S_takeFirstRead_10 rfl rfl ?_
        refine j_iload_n X (q := 13) d_S_takeFirstRead_12 rfl rfl ?_
        refine j_ncmp_eq X (tgt := 52) (q := 16) d_S_takeFirstRead_13 (by decide) rfl (by omega) (by omega) (fun h13 => ?_) (fun h13 => ?_)
        · have _b13 := True.intro
          refine j_iinc X (q := 55) d_S_takeFirstRead_52 rfl (j_inc1 _) rfl ?_
          refine j_goto X (tgt := 3) d_S_takeFirstRead_55 (by decide) ?_
          exact ih (t + 1) σ1 (by omega) (by omega) (jZs_ext hz1 (fun a v _ _ => ⟨fun q => q.elim Or.inl (fun z => Or.inr ⟨by omega, z.2⟩), fun q => q.elim Or.inl (fun z => by
            by_cases e : a = t
            · exfalso; subst e; exact z.2.1 h13
            · exact Or.inr ⟨by omega, z.2⟩)⟩) (fun _ _ _ _ _ _ => Iff.rfl) rfl) hf1
        · have _b13 := True.intro
          refine j_aload_n X (q := 17) d_S_takeFirstRead_16 rfl rfl ?_
          refine j_getI X (C := jR3) (T := jT3) (N := 5) (ci := 3) (j := 3) (q := 20) d_S_takeFirstRead_17 ju3 rfl rfl rfl (by decide) wl159 rfl (hC _ _ (by decide)) rfl hz1.1 ?_
          refine j_iload X (q := 22) d_S_takeFirstRead_20 rfl rfl ?_
          refine j_callSN X (n := 2) d_S_takeFirstRead_22 (c_J_has hI C (t := t) (by omega) _) wl225 nl8 wl36 wl224 (by decide +kernel) ⟨rfl, rfl⟩ (by decide) rfl rfl (Nat.le_of_ble_eq_true rfl) rfl (q := 25) rfl (fun r22 τ22 e22 => ?_)
          obtain ⟨rfl, rfl⟩ := e22
          refine j_bif_eq X (tgt := 52) (q := 28) d_S_takeFirstRead_25 (by decide) rfl (fun h25 => ?_) (fun h25 => ?_)
          · have _b25 := True.intro
            refine j_iinc X (q := 55) d_S_takeFirstRead_52 rfl (j_inc1 _) rfl ?_
            refine j_goto X (tgt := 3) d_S_takeFirstRead_55 (by decide) ?_
            exact ih (t + 1) σ1 (by omega) (by omega) (jZs_ext hz1 (fun a v _ _ => ⟨fun q => q.elim Or.inl (fun z => Or.inr ⟨by omega, z.2⟩), fun q => q.elim Or.inl (fun z => by
              by_cases e : a = t
              · exfalso; subst e; rw [z.2.2.1] at h25; cases h25
              · exact Or.inr ⟨by omega, z.2⟩)⟩) (fun _ _ _ _ _ _ => Iff.rfl) rfl) hf1
          · have _b25 := True.intro
            refine j_aload_n X (q := 29) d_S_takeFirstRead_28 rfl rfl ?_
            refine j_iload X (q := 31) d_S_takeFirstRead_29 rfl rfl ?_
            refine j_iload_n X (q := 32) d_S_takeFirstRead_31 rfl rfl ?_
            refine j_callV X (n := 2) (C := jR2) (T := jT2) (N := 12) d_S_takeFirstRead_32 (c_H_hasWritten hI (fun g r q => hC g r (jHJ q)) hw hs1 (t := t) (x := x) (by omega) hx) rfl rfl (hC _ _ (by decide)) wl308 wl309 wl310 wl37 wl311 (by decide +kernel) ⟨rfl, rfl⟩ (by decide) rfl rfl (Nat.le_of_ble_eq_true rfl) rfl (q := 35) rfl (fun r32 τ32 e32 => ?_)
            obtain ⟨rfl, rfl⟩ := e32
            refine j_bif_eq X (tgt := 52) (q := 38) d_S_takeFirstRead_35 (by decide) rfl (fun h35 => ?_) (fun h35 => ?_)
            · have _b35 := True.intro
              refine j_iinc X (q := 55) d_S_takeFirstRead_52 rfl (j_inc1 _) rfl ?_
              refine j_goto X (tgt := 3) d_S_takeFirstRead_55 (by decide) ?_
              exact ih (t + 1) σ1 (by omega) (by omega) (jZs_ext hz1 (fun a v _ _ => ⟨fun q => q.elim Or.inl (fun z => Or.inr ⟨by omega, z.2⟩), fun q => q.elim Or.inl (fun z => by
                by_cases e : a = t
                · exfalso; subst e; have := jsomeN.mpr z.2.2.2.1; rw [h35] at this; cases this
                · exact Or.inr ⟨by omega, z.2⟩)⟩) (fun _ _ _ _ _ _ => Iff.rfl) rfl) hf1
            · have _b35 := True.intro
              refine j_aload_n X (q := 39) d_S_takeFirstRead_38 rfl rfl ?_
              refine j_getR X (C := jR3) (T := jT3) (N := 5) (ci := 3) (j := 0) (q := 42) d_S_takeFirstRead_39 ju3 rfl rfl rfl (by decide) wl155 rfl (hC _ _ (by decide)) rfl ?_
              refine j_iload X (q := 44) d_S_takeFirstRead_42 rfl rfl ?_
              refine j_dup2 X (q := 45) d_S_takeFirstRead_44 rfl ?_
              refine j_iald X (q := 46) d_S_takeFirstRead_45 rfl (by decide) rfl (by omega) (hC _ _ (by decide)) rfl (hz1.2.2.1 t (by omega)) ?_
              refine j_iload_n X (q := 47) d_S_takeFirstRead_46 rfl rfl ?_
              refine j_callSN X (n := 1) d_S_takeFirstRead_47 (c_J_only hI hu _) wl208 nl9 wl36 wl207 (by decide +kernel) ⟨rfl, rfl⟩ (by decide) rfl rfl (Nat.le_of_ble_eq_true rfl) rfl (q := 50) rfl (fun r47 τ47 e47 => ?_)
              obtain ⟨rfl, rfl⟩ := e47
              refine j_ior X (q := 51) d_S_takeFirstRead_50 rfl ?_
              refine j_iast X (q := 52) d_S_takeFirstRead_51 rfl (by decide) rfl (by omega) (hC _ _ (by decide)) rfl ?_
              refine j_iinc X (q := 55) d_S_takeFirstRead_52 rfl (j_inc1 _) rfl ?_
              refine j_goto X (tgt := 3) d_S_takeFirstRead_55 (by decide) ?_
              rw [bI_or]
              refine ih (t + 1) _ (by omega) (by omega) (jZs_ext (jZs_bf hz1 (t := t) (u := u) (by omega)) (fun a v _ _ => ⟨fun q => ?_, fun q => ?_⟩) (fun _ _ _ _ _ _ => Iff.rfl) rfl) (fun g' hg => by rw [jxs_g _ _ _ _ _ hg, hf1 g' hg])
              · rcases q with (q | z) | ⟨rfl, rfl⟩
                · exact Or.inl q
                · exact Or.inr ⟨by omega, z.2⟩
                · exact Or.inr ⟨by omega, h13, h25, jsomeN.mp h35, rfl⟩
              · rcases q with q | z
                · exact Or.inl (Or.inl q)
                · by_cases e : a = t
                  · exact Or.inr ⟨e, z.2.2.2.2⟩
                  · exact Or.inl (Or.inr ⟨by omega, z.2⟩)
  refine j_iconst X (v := (nI 0)) (q := 1) d_S_takeFirstRead_0 (by decide +kernel) rfl ?_
  refine j_istore X (q := 3) d_S_takeFirstRead_1 (Nat.le_of_ble_eq_true rfl) rfl ?_
  refine jxW.to (L' := [some (.inr (30, 0)), some (.inr (1, 0)), some (.inl (nI u)), some (.inl (nI x)), some (.inl (nI 0))]) (by simp [jfg]) ?_
  exact K 9 0 σ (by omega) (by omega) (jZs_ext hz (fun a v _ _ => ⟨Or.inl, fun q => q.elim id (fun z => by omega)⟩) (fun _ _ _ _ _ _ => Iff.rfl) rfl) (fun _ _ => rfl)
set_option maxRecDepth 100000 in
set_option maxHeartbeats 4000000 in
theorem c_S_takeForeignRead {l : Launch} {Θ : jxT} (hI : jxI Θ) (hC : ∀ g r, r < jrwJ g → Θ.2.2.2 g r) {h : jH} {σ : jxM} (hw : jHw h) (hs : jHs h σ) {C : Nat → Bool} {bf : Nat → Nat → Prop} {rb : Nat → Nat → Nat → Prop} {sd : Bool} (hz : jZs C bf rb sd σ) {r w : Nat} (hr : r < hyR h) (hw8 : w < 8) : jxMet l y_S_takeForeignRead b_S_takeForeignRead 7 none (jrm 3) Θ [.inr (30, 0), .inr (1, 0), .inl (nI r), .inl (nI w)] σ (fun r' σ' => r' = none ∧ jZs C (fun a v => bf a v ∨ (a = hyrd h r ∧ v = w)) (fun w' a v => rb w' a v ∨ (w' = w ∧ a ≠ hyrd h r ∧ a ≠ w ∧ hylt h a (hyri h r) ≠ none ∧ v = hyrd h r)) sd σ' ∧ ∀ g', g' ≠ 31 → g' ≠ 33 → σ' g' = σ g') := by
  refine jxMet.of (own := "HistoryJudge$SerialSearch") hI (by decide) rfl (Nat.le_of_ble_eq_true rfl) (fun Γ X => ?_)
  show jxW Γ Θ (fun r' σ' => r' = none ∧ jZs C (fun a v => bf a v ∨ (a = hyrd h r ∧ v = w)) (fun w' a v => rb w' a v ∨ (w' = w ∧ a ≠ hyrd h r ∧ a ≠ w ∧ hylt h a (hyri h r) ≠ none ∧ v = hyrd h r)) sd σ' ∧ ∀ g', g' ≠ 31 → g' ≠ 33 → σ' g' = σ g') 0 [some (.inr (30, 0)), some (.inr (1, 0)), some (.inl (nI r)), some (.inl (nI w)), none, none, none] [] σ
  have bR := jHw_R hw
  have b1 := jHw_rd hw hr
  have b2 := jHw_ri hw hr
  have K : ∀ (N : Nat) (t : Nat) (σ1 : jxM), 8 - t < N → t ≤ 8 → jZs C (fun a v => bf a v ∨ (a = hyrd h r ∧ v = w)) (fun w' a v => rb w' a v ∨ (a < t ∧ w' = w ∧ a ≠ hyrd h r ∧ a ≠ w ∧ hylt h a (hyri h r) ≠ none ∧ v = hyrd h r)) sd σ1 → (∀ g', g' ≠ 31 → g' ≠ 33 → σ1 g' = σ g') → jxW Γ Θ (fun r' σ' => r' = none ∧ jZs C (fun a v => bf a v ∨ (a = hyrd h r ∧ v = w)) (fun w' a v => rb w' a v ∨ (w' = w ∧ a ≠ hyrd h r ∧ a ≠ w ∧ hylt h a (hyri h r) ≠ none ∧ v = hyrd h r)) sd σ' ∧ ∀ g', g' ≠ 31 → g' ≠ 33 → σ' g' = σ g') 33 [some (.inr (30, 0)), some (.inr (1, 0)), some (.inl (nI r)), some (.inl (nI w)), some (.inl (nI (hyrd h r))), some (.inl (nI (hyri h r))), some (.inl (nI t))] [] σ1 := by
    intro N
    induction N with
    | zero => intro t σ1 hn; exact absurd hn (Nat.not_lt_zero _)
    | succ N ih =>
      intro t σ1 hn ht hz1 hf1
      refine j_iload X (q := 35) d_S_takeForeignRead_33 rfl rfl ?_
      refine j_bipush X (v := (nI 8)) (q := 37) d_S_takeForeignRead_35 (by decide +kernel) rfl ?_
      refine j_ncmp_ge X (tgt := 87) (q := 40) d_S_takeForeignRead_37 (by decide) rfl (by omega) (by omega) (fun h37 => ?_) (fun h37 => ?_)
      · have _b37 := True.intro
        refine j_vret X d_S_takeForeignRead_87 ?_
        exact ⟨rfl, jZs_ext hz1 (fun _ _ _ _ => Iff.rfl) (fun w' a v _ ha _ => ⟨fun q => q.elim Or.inl (fun z => Or.inr z.2), fun q => q.elim Or.inl (fun z => Or.inr ⟨by omega, z⟩)⟩) rfl, hf1⟩
      · have _b37 := True.intro
        have hs1 : jHs h σ1 := jHs_keep hs (fun g hg => hf1 g (by omega) (by omega))
        refine j_iload X (q := 42) d_S_takeForeignRead_40 rfl rfl ?_
        refine j_iload X (q := 44) d_S_takeForeignRead_42 rfl rfl ?_
        refine j_ncmp_eq X (tgt := 81) (q := 47) d_S_takeForeignRead_44 (by decide) rfl (by omega) (by omega) (fun h44 => ?_) (fun h44 => ?_)
        · have _b44 := True.intro
          refine j_iinc X (q := 84) d_S_takeForeignRead_81 rfl (j_inc1 _) rfl ?_
          refine j_goto X (tgt := 33) d_S_takeForeignRead_84 (by decide) ?_
          exact ih (t + 1) σ1 (by omega) (by omega) (jZs_ext hz1 (fun _ _ _ _ => Iff.rfl) (fun w' a v _ _ _ => ⟨fun q => q.elim Or.inl (fun z => Or.inr ⟨by omega, z.2⟩), fun q => q.elim Or.inl (fun z => by
            by_cases e : a = t
            · exfalso; subst e; exact z.2.2.1 h44
            · exact Or.inr ⟨by omega, z.2⟩)⟩) rfl) hf1
        · have _b44 := True.intro
          refine j_iload X (q := 49) d_S_takeForeignRead_47 rfl rfl ?_
          refine j_iload_n X (q := 50) d_S_takeForeignRead_49 rfl rfl ?_
          refine j_ncmp_eq X (tgt := 81) (q := 53) d_S_takeForeignRead_50 (by decide) rfl (by omega) (by omega) (fun h50 => ?_) (fun h50 => ?_)
          · have _b50 := True.intro
            refine j_iinc X (q := 84) d_S_takeForeignRead_81 rfl (j_inc1 _) rfl ?_
            refine j_goto X (tgt := 33) d_S_takeForeignRead_84 (by decide) ?_
            exact ih (t + 1) σ1 (by omega) (by omega) (jZs_ext hz1 (fun _ _ _ _ => Iff.rfl) (fun w' a v _ _ _ => ⟨fun q => q.elim Or.inl (fun z => Or.inr ⟨by omega, z.2⟩), fun q => q.elim Or.inl (fun z => by
              by_cases e : a = t
              · exfalso; subst e; exact z.2.2.2.1 h50
              · exact Or.inr ⟨by omega, z.2⟩)⟩) rfl) hf1
          · have _b50 := True.intro
            refine j_aload_n X (q := 54) d_S_takeForeignRead_53 rfl rfl ?_
            refine j_iload X (q := 56) d_S_takeForeignRead_54 rfl rfl ?_
            refine j_iload X (q := 58) d_S_takeForeignRead_56 rfl rfl ?_
            refine j_callV X (n := 2) (C := jR2) (T := jT2) (N := 12) d_S_takeForeignRead_58 (c_H_hasWritten hI (fun g r q => hC g r (jHJ q)) hw hs1 (t := t) (x := hyri h r) (by omega) b2) rfl rfl (hC _ _ (by decide)) wl308 wl309 wl310 wl37 wl311 (by decide +kernel) ⟨rfl, rfl⟩ (by decide) rfl rfl (Nat.le_of_ble_eq_true rfl) rfl (q := 61) rfl (fun r58 τ58 e58 => ?_)
            obtain ⟨rfl, rfl⟩ := e58
            refine j_bif_eq X (tgt := 81) (q := 64) d_S_takeForeignRead_61 (by decide) rfl (fun h61 => ?_) (fun h61 => ?_)
            · have _b61 := True.intro
              refine j_iinc X (q := 84) d_S_takeForeignRead_81 rfl (j_inc1 _) rfl ?_
              refine j_goto X (tgt := 33) d_S_takeForeignRead_84 (by decide) ?_
              exact ih (t + 1) σ1 (by omega) (by omega) (jZs_ext hz1 (fun _ _ _ _ => Iff.rfl) (fun w' a v _ _ _ => ⟨fun q => q.elim Or.inl (fun z => Or.inr ⟨by omega, z.2⟩), fun q => q.elim Or.inl (fun z => by
                by_cases e : a = t
                · exfalso; subst e; have := jsomeN.mpr z.2.2.2.2.1; rw [h61] at this; cases this
                · exact Or.inr ⟨by omega, z.2⟩)⟩) rfl) hf1
            · have _b61 := True.intro
              refine j_aload_n X (q := 65) d_S_takeForeignRead_64 rfl rfl ?_
              refine j_getR X (C := jR3) (T := jT3) (N := 5) (ci := 3) (j := 1) (q := 68) d_S_takeForeignRead_65 ju3 rfl rfl rfl (by decide) wl156 rfl (hC _ _ (by decide)) rfl ?_
              refine j_iload_n X (q := 69) d_S_takeForeignRead_68 rfl rfl ?_
              refine j_aald X (q := 70) d_S_takeForeignRead_69 rfl (by decide) rfl (by omega) (hC _ _ (by decide)) rfl ?_
              refine j_iload X (q := 72) d_S_takeForeignRead_70 rfl rfl ?_
              refine j_dup2 X (q := 73) d_S_takeForeignRead_72 rfl ?_
              refine j_iald X (q := 74) d_S_takeForeignRead_73 rfl (by decide) rfl (by omega) (hC _ _ (by show _ < 8; omega)) rfl (hz1.2.2.2 w t hw8 (by omega)) ?_
              refine j_iload X (q := 76) d_S_takeForeignRead_74 rfl rfl ?_
              refine j_callSN X (n := 1) d_S_takeForeignRead_76 (c_J_only hI b1 _) wl208 nl9 wl36 wl207 (by decide +kernel) ⟨rfl, rfl⟩ (by decide) rfl rfl (Nat.le_of_ble_eq_true rfl) rfl (q := 79) rfl (fun r76 τ76 e76 => ?_)
              obtain ⟨rfl, rfl⟩ := e76
              refine j_ior X (q := 80) d_S_takeForeignRead_79 rfl ?_
              refine j_iast X (q := 81) d_S_takeForeignRead_80 rfl (by decide) rfl (by omega) (hC _ _ (by show _ < 8; omega)) rfl ?_
              refine j_iinc X (q := 84) d_S_takeForeignRead_81 rfl (j_inc1 _) rfl ?_
              refine j_goto X (tgt := 33) d_S_takeForeignRead_84 (by decide) ?_
              rw [bI_or]
              refine ih (t + 1) _ (by omega) (by omega) (jZs_ext (jZs_rb hz1 (w := w) (t := t) (u := hyrd h r) hw8 (by omega)) (fun _ _ _ _ => Iff.rfl) (fun w' a v _ _ _ => ⟨fun q => ?_, fun q => ?_⟩) rfl) (fun g' h1 h2 => by rw [jxs_g _ _ _ _ _ h2, hf1 g' h1 h2])
              · rcases q with (q | z) | ⟨rfl, rfl, rfl⟩
                · exact Or.inl q
                · exact Or.inr ⟨by omega, z.2⟩
                · exact Or.inr ⟨by omega, rfl, h44, h50, jsomeN.mp h61, rfl⟩
              · rcases q with q | z
                · exact Or.inl (Or.inl q)
                · by_cases e : a = t
                  · exact Or.inr ⟨z.2.1, e, z.2.2.2.2.2⟩
                  · exact Or.inl (Or.inr ⟨by omega, z.2⟩)
  refine j_aload_n X (q := 1) d_S_takeForeignRead_0 rfl rfl ?_
  refine j_getR X (C := jR2) (T := jT2) (N := 12) (ci := 2) (j := 4) (q := 4) d_S_takeForeignRead_1 ju2 rfl rfl rfl (by decide) wl83 rfl (hC _ _ (by decide)) rfl ?_
  refine j_iload_n X (q := 5) d_S_takeForeignRead_4 rfl rfl ?_
  refine j_iald X (q := 6) d_S_takeForeignRead_5 rfl (by decide) rfl (by omega) (hC _ _ (by decide)) rfl (jHs_rd hs hr) ?_
  refine j_istore X (q := 8) d_S_takeForeignRead_6 (Nat.le_of_ble_eq_true rfl) rfl ?_
  refine j_aload_n X (q := 9) d_S_takeForeignRead_8 rfl rfl ?_
  refine j_getR X (C := jR2) (T := jT2) (N := 12) (ci := 2) (j := 5) (q := 12) d_S_takeForeignRead_9 ju2 rfl rfl rfl (by decide) wl86 rfl (hC _ _ (by decide)) rfl ?_
  refine j_iload_n X (q := 13) d_S_takeForeignRead_12 rfl rfl ?_
  refine j_iald X (q := 14) d_S_takeForeignRead_13 rfl (by decide) rfl (by omega) (hC _ _ (by decide)) rfl (jHs_ri hs hr) ?_
  refine j_istore X (q := 16) d_S_takeForeignRead_14 (Nat.le_of_ble_eq_true rfl) rfl ?_
  refine j_aload_n X (q := 17) d_S_takeForeignRead_16 rfl rfl ?_
  refine j_getR X (C := jR3) (T := jT3) (N := 5) (ci := 3) (j := 0) (q := 20) d_S_takeForeignRead_17 ju3 rfl rfl rfl (by decide) wl155 rfl (hC _ _ (by decide)) rfl ?_
  refine j_iload X (q := 22) d_S_takeForeignRead_20 rfl rfl ?_
  refine j_dup2 X (q := 23) d_S_takeForeignRead_22 rfl ?_
  refine j_iald X (q := 24) d_S_takeForeignRead_23 rfl (by decide) rfl (by omega) (hC _ _ (by decide)) rfl (hz.2.2.1 _ b1) ?_
  refine j_iload_n X (q := 25) d_S_takeForeignRead_24 rfl rfl ?_
  refine j_callSN X (n := 1) d_S_takeForeignRead_25 (c_J_only hI hw8 _) wl208 nl9 wl36 wl207 (by decide +kernel) ⟨rfl, rfl⟩ (by decide) rfl rfl (Nat.le_of_ble_eq_true rfl) rfl (q := 28) rfl (fun r25 τ25 e25 => ?_)
  obtain ⟨rfl, rfl⟩ := e25
  refine j_ior X (q := 29) d_S_takeForeignRead_28 rfl ?_
  refine j_iast X (q := 30) d_S_takeForeignRead_29 rfl (by decide) rfl (by omega) (hC _ _ (by decide)) rfl ?_
  refine j_iconst X (v := (nI 0)) (q := 31) d_S_takeForeignRead_30 (by decide +kernel) rfl ?_
  refine j_istore X (q := 33) d_S_takeForeignRead_31 (Nat.le_of_ble_eq_true rfl) rfl ?_
  rw [bI_or]
  refine jxW.to (L' := [some (.inr (30, 0)), some (.inr (1, 0)), some (.inl (nI r)), some (.inl (nI w)), some (.inl (nI (hyrd h r))), some (.inl (nI (hyri h r))), some (.inl (nI 0))]) (by simp [jfg]) ?_
  exact K 9 0 _ (by omega) (by omega) (jZs_ext (jZs_bf hz b1) (fun _ _ _ _ => Iff.rfl) (fun w' a v _ _ _ => ⟨Or.inl, fun q => q.elim id (fun z => by omega)⟩) rfl) (fun g' h1 h2 => by rw [jxs_g _ _ _ _ _ h1])
/-- what read r asks for: who before whom, who must not be cut off, whether it can be at all -/
def jbfr (h : jH) (C : Nat → Bool) (r t u : Nat) : Prop := hyro h r = none ∧ ((hyrv h r = none ∧ t ≠ hyrd h r ∧ C t = true ∧ hylt h t (hyri h r) ≠ none ∧ u = hyrd h r) ∨ ∃ v, hyrv h r = some v ∧ hyS h (hyW h v) = 2 ∧ hylt h (hyW h v) (hyI h v) = some v ∧ t = hyrd h r ∧ u = hyW h v)
def jrbr (h : jH) (r w t u : Nat) : Prop := hyro h r = none ∧ ∃ v, hyrv h r = some v ∧ hyS h (hyW h v) = 2 ∧ hylt h (hyW h v) (hyI h v) = some v ∧ w = hyW h v ∧ t ≠ hyrd h r ∧ t ≠ w ∧ hylt h t (hyri h r) ≠ none ∧ u = hyrd h r
def jsdr (h : jH) (r : Nat) : Prop := (∀ o, hyro h r = some o → hyrv h r = some o) ∧ (hyro h r = none → ∀ v, hyrv h r = some v → hyS h (hyW h v) = 2 ∧ hylt h (hyW h v) (hyI h v) = some v)
theorem vI_inj {o o' : Option Nat} (h : ∀ v, o = some v → v < 2 ^ 31) (h' : ∀ v, o' = some v → v < 2 ^ 31) : vI o = vI o' ↔ o = o' := by
  cases o with
  | none =>
    cases o' with
    | none => simp
    | some v => exact ⟨fun q => absurd q.symm (nI_ne_m1 (h' v rfl)), fun q => by cases q⟩
  | some v =>
    cases o' with
    | none => exact ⟨fun q => absurd q (nI_ne_m1 (h v rfl)), fun q => by cases q⟩
    | some w =>
      show nI v = nI w ↔ _
      rw [nI_eq (h v rfl) (h' w rfl), Option.some.injEq]
theorem jZs_sd {C : Nat → Bool} {bf : Nat → Nat → Prop} {rb : Nat → Nat → Nat → Prop} {sd : Bool} {σ : jxM} (h : jZs C bf rb sd σ) (b : Bool) : jZs C bf rb b (jxs σ 30 0 4 (jB b)) := by
  refine ⟨by simp [jxs_at]; exact h.1, by simp [jxs_at], fun a ha => by rw [jxs_g _ _ _ _ _ (by decide)]; exact h.2.2.1 a ha, fun w a hw ha => by rw [jxs_g _ _ _ _ _ (by decide)]; exact h.2.2.2 w a hw ha⟩
set_option maxRecDepth 100000 in
set_option maxHeartbeats 4000000 in
theorem c_S_takeRead {l : Launch} {Θ : jxT} (hI : jxI Θ) (hC : ∀ g r, r < jrwJ g → Θ.2.2.2 g r) {h : jH} {σ : jxM} (hw : jHw h) (hs : jHs h σ) {C : Nat → Bool} {bf : Nat → Nat → Prop} {rb : Nat → Nat → Nat → Prop} {sd : Bool} (hz : jZs C bf rb sd σ) {r : Nat} (hr : r < hyR h) : jxMet l y_S_takeRead b_S_takeRead 4 none (jrm 4) Θ [.inr (30, 0), .inr (1, 0), .inl (nI r)] σ (fun r' σ' => r' = none ∧ jZs C (fun t u => bf t u ∨ jbfr h C r t u) (fun w t u => rb w t u ∨ jrbr h r w t u) (sd && jd (jsdr h r)) σ' ∧ ∀ g', g' ≠ 30 → g' ≠ 31 → g' ≠ 33 → σ' g' = σ g') := by
  refine jxMet.of (own := "HistoryJudge$SerialSearch") hI (by decide) rfl (Nat.le_of_ble_eq_true rfl) (fun Γ X => ?_)
  show jxW Γ Θ (fun r' σ' => r' = none ∧ jZs C (fun t u => bf t u ∨ jbfr h C r t u) (fun w t u => rb w t u ∨ jrbr h r w t u) (sd && jd (jsdr h r)) σ' ∧ ∀ g', g' ≠ 30 → g' ≠ 31 → g' ≠ 33 → σ' g' = σ g') 0 [some (.inr (30, 0)), some (.inr (1, 0)), some (.inl (nI r)), none] [] σ
  have bV := jHw_V hw
  have bR := jHw_R hw
  have b1 := jHw_rd hw hr
  have b2 := jHw_ri hw hr
  have br1 : ∀ v, hyrv h r = some v → v < 2 ^ 31 := fun v hv => by have := (jHw_rv hw hr hv).1; omega
  have br2 : ∀ v, hyro h r = some v → v < 2 ^ 31 := fun v hv => by have := jHw_ro hw hr hv; omega
  have bmo := vI_m1 (hyro h r) br2
  have bmv := vI_m1 (hyrv h r) br1
  refine j_aload_n X (q := 1) d_S_takeRead_0 rfl rfl ?_
  refine j_getR X (C := jR2) (T := jT2) (N := 12) (ci := 2) (j := 6) (q := 4) d_S_takeRead_1 ju2 rfl rfl rfl (by decide) wl89 rfl (hC _ _ (by decide)) rfl ?_
  refine j_iload_n X (q := 5) d_S_takeRead_4 rfl rfl ?_
  refine j_iald X (q := 6) d_S_takeRead_5 rfl (by decide) rfl (by omega) (hC _ _ (by decide)) rfl (jHs_rv hs hr) ?_
  refine j_istore_n X (j := 3) (q := 7) d_S_takeRead_6 rfl (Nat.le_of_ble_eq_true rfl) rfl ?_
  refine j_aload_n X (q := 8) d_S_takeRead_7 rfl rfl ?_
  refine j_getR X (C := jR2) (T := jT2) (N := 12) (ci := 2) (j := 7) (q := 11) d_S_takeRead_8 ju2 rfl rfl rfl (by decide) wl91 rfl (hC _ _ (by decide)) rfl ?_
  refine j_iload_n X (q := 12) d_S_takeRead_11 rfl rfl ?_
  refine j_iald X (q := 13) d_S_takeRead_12 rfl (by decide) rfl (by omega) (hC _ _ (by decide)) rfl (jHs_ro hs hr) ?_
  refine j_iconst X (v := (-1)) (q := 14) d_S_takeRead_13 (by decide +kernel) rfl ?_
  refine j_icmp_eq X (tgt := 46) (q := 17) d_S_takeRead_14 (by decide) rfl (fun h14 => ?_) (fun h14 => ?_)
  · have _b14 := True.intro
    have eo := bmo.mp h14
    refine j_iload_n X (q := 47) d_S_takeRead_46 rfl rfl ?_
    refine j_iconst X (v := (-1)) (q := 48) d_S_takeRead_47 (by decide +kernel) rfl ?_
    refine j_icmp_ne X (tgt := 71) (q := 51) d_S_takeRead_48 (by decide) rfl (fun h48 => ?_) (fun h48 => ?_)
    · have _b48 := True.intro
      obtain ⟨v, ev⟩ : ∃ v, hyrv h r = some v := by
        cases e : hyrv h r with
        | some v => exact ⟨v, rfl⟩
        | none => exact absurd (bmv.mpr e) h48
      have b0 := (jHw_rv hw hr ev).1
      have b3 := jHw_W hw b0
      refine j_aload_n X (q := 72) d_S_takeRead_71 rfl rfl ?_
      refine j_aload_n X (q := 73) d_S_takeRead_72 rfl rfl ?_
      refine j_getR X (C := jR2) (T := jT2) (N := 12) (ci := 2) (j := 1) (q := 76) d_S_takeRead_73 ju2 rfl rfl rfl (by decide) wl77 rfl (hC _ _ (by decide)) rfl ?_
      refine j_iload_n X (q := 77) d_S_takeRead_76 rfl rfl ?_
      refine j_iald X (j := v) (q := 78) d_S_takeRead_77 rfl (by decide) (show vI (hyrv h r) = nI v by rw [ev]; rfl) (by omega) (hC _ _ (by decide)) rfl (jHs_W hs b0) ?_
      refine j_callV X (n := 1) (C := jR2) (T := jT2) (N := 12) d_S_takeRead_78 (c_H_isCommitted hI (fun g r q => hC g r (jHJ q)) hw hs b3) rfl rfl (hC _ _ (by decide)) wl301 wl210 wl211 wl37 wl212 (by decide +kernel) ⟨rfl, rfl⟩ (by decide) rfl rfl (Nat.le_of_ble_eq_true rfl) rfl (q := 81) rfl (fun r78 τ78 e78 => ?_)
      obtain ⟨rfl, rfl⟩ := e78
      refine j_bif_eq X (tgt := 107) (q := 84) d_S_takeRead_81 (by decide) rfl (fun h81 => ?_) (fun h81 => ?_)
      · have _b81 := True.intro
        refine j_aload_n X (q := 108) d_S_takeRead_107 rfl rfl ?_
        refine j_iconst X (v := (nI 0)) (q := 109) d_S_takeRead_108 (by decide +kernel) rfl ?_
        refine j_putI X (C := jR3) (T := jT3) (N := 5) (ci := 3) (j := 4) (q := 112) d_S_takeRead_109 ju3 rfl rfl jt3 jt3_ok jn3 rfl (by decide) wl160 rfl (hC _ _ (by decide)) rfl rfl (ty := .boolean) rfl (by decide +kernel) (by decide +kernel) ?_
        refine j_vret X d_S_takeRead_112 ?_
        have hsd : jd (jsdr h r) = false := jd_no.mpr (fun q => by
          have := q.2 eo v ev
          rw [decide_eq_true this.1] at h81; cases h81)
        have e0 : nI 0 = jB (sd && jd (jsdr h r)) := by rw [hsd, Bool.and_false]; rfl
        rw [e0]
        exact ⟨rfl, jZs_ext (jZs_sd hz _) (fun t u _ _ => ⟨Or.inl, fun q => q.elim id (fun z => by
          rcases z.2 with y | ⟨w, y1, y2, y3, _⟩
          · rw [ev] at y; cases y.1
          · rw [ev] at y1; cases y1; rw [decide_eq_true y2] at h81; cases h81)⟩) (fun w t u _ _ _ => ⟨Or.inl, fun q => q.elim id (fun z => by
          obtain ⟨w', y1, y2, y3, _⟩ := z.2
          rw [ev] at y1; cases y1; rw [decide_eq_true y2] at h81; cases h81)⟩) rfl, fun g' h1 _ _ => jxs_g _ _ _ _ _ h1⟩
      · have _b81 := True.intro
        refine j_aload_n X (q := 85) d_S_takeRead_84 rfl rfl ?_
        refine j_iload_n X (q := 86) d_S_takeRead_85 rfl rfl ?_
        refine jxW.cast rfl (show _ = [.inl (nI v), .inr (1, 0)] by rw [ev]; rfl) rfl ?_
        refine j_callV X (n := 1) (C := jR2) (T := jT2) (N := 12) d_S_takeRead_86 (c_H_isFinal hI (fun g r q => hC g r (jHJ q)) hw hs b0) rfl rfl (hC _ _ (by decide)) wl312 wl268 wl269 wl37 wl270 (by decide +kernel) ⟨rfl, rfl⟩ (by decide) rfl rfl (Nat.le_of_ble_eq_true rfl) rfl (q := 89) rfl (fun r86 τ86 e86 => ?_)
        obtain ⟨rfl, rfl⟩ := e86
        refine j_bif_eq X (tgt := 107) (q := 92) d_S_takeRead_89 (by decide) rfl (fun h89 => ?_) (fun h89 => ?_)
        · have _b89 := True.intro
          refine j_aload_n X (q := 108) d_S_takeRead_107 rfl rfl ?_
          refine j_iconst X (v := (nI 0)) (q := 109) d_S_takeRead_108 (by decide +kernel) rfl ?_
          refine j_putI X (C := jR3) (T := jT3) (N := 5) (ci := 3) (j := 4) (q := 112) d_S_takeRead_109 ju3 rfl rfl jt3 jt3_ok jn3 rfl (by decide) wl160 rfl (hC _ _ (by decide)) rfl rfl (ty := .boolean) rfl (by decide +kernel) (by decide +kernel) ?_
          refine j_vret X d_S_takeRead_112 ?_
          have hsd : jd (jsdr h r) = false := jd_no.mpr (fun q => by
            have := q.2 eo v ev
            rw [decide_eq_true this.2] at h89; cases h89)
          have e0 : nI 0 = jB (sd && jd (jsdr h r)) := by rw [hsd, Bool.and_false]; rfl
          rw [e0]
          exact ⟨rfl, jZs_ext (jZs_sd hz _) (fun t u _ _ => ⟨Or.inl, fun q => q.elim id (fun z => by
            rcases z.2 with y | ⟨w, y1, y2, y3, _⟩
            · rw [ev] at y; cases y.1
            · rw [ev] at y1; cases y1; rw [decide_eq_true y3] at h89; cases h89)⟩) (fun w t u _ _ _ => ⟨Or.inl, fun q => q.elim id (fun z => by
            obtain ⟨w', y1, y2, y3, _⟩ := z.2
            rw [ev] at y1; cases y1; rw [decide_eq_true y3] at h89; cases h89)⟩) rfl, fun g' h1 _ _ => jxs_g _ _ _ _ _ h1⟩
        · have _b89 := True.intro
          refine j_aload_n X (q := 93) d_S_takeRead_92 rfl rfl ?_
          refine j_aload_n X (q := 94) d_S_takeRead_93 rfl rfl ?_
          refine j_iload_n X (q := 95) d_S_takeRead_94 rfl rfl ?_
          refine j_aload_n X (q := 96) d_S_takeRead_95 rfl rfl ?_
          refine j_getR X (C := jR2) (T := jT2) (N := 12) (ci := 2) (j := 1) (q := 99) d_S_takeRead_96 ju2 rfl rfl rfl (by decide) wl77 rfl (hC _ _ (by decide)) rfl ?_
          refine j_iload_n X (q := 100) d_S_takeRead_99 rfl rfl ?_
          refine j_iald X (j := v) (q := 101) d_S_takeRead_100 rfl (by decide) (show vI (hyrv h r) = nI v by rw [ev]; rfl) (by omega) (hC _ _ (by decide)) rfl (jHs_W hs b0) ?_
          refine j_callV X (n := 3) (C := jR3) (T := jT3) (N := 5) d_S_takeRead_101 (c_S_takeForeignRead hI hC hw hs hz hr b3) rfl rfl (hC _ _ (by decide)) wl313 wl314 wl11 wl41 wl315 (by decide +kernel) ⟨rfl, rfl⟩ (by decide) rfl rfl (Nat.le_of_ble_eq_true rfl) rfl (q := 104) rfl (fun r101 τ101 e101 => ?_)
          obtain ⟨rfl, hz2, hf2⟩ := e101
          refine j_goto X (tgt := 112) d_S_takeRead_104 (by decide) ?_
          refine j_vret X d_S_takeRead_112 ?_
          have hsd : jd (jsdr h r) = true := jd_iff.mpr ⟨fun o q => (by rw [eo] at q; cases q), fun _ w q => by rw [ev] at q; cases q; exact ⟨by simpa using h81, by simpa using h89⟩⟩
          refine ⟨rfl, jZs_ext hz2 (fun t u _ _ => ⟨fun q => q.elim Or.inl (fun z => Or.inr ⟨eo, Or.inr ⟨v, ev, by simpa using h81, by simpa using h89, z⟩⟩), fun q => q.elim Or.inl (fun z => ?_)⟩) (fun w t u _ _ _ => ⟨fun q => q.elim Or.inl (fun z => Or.inr ⟨eo, v, ev, by simpa using h81, by simpa using h89, z.1, z.2.1, by rw [z.1]; exact z.2.2.1, z.2.2.2⟩), fun q => q.elim Or.inl (fun z => ?_)⟩) (by rw [hsd, Bool.and_true]), fun g' _ h2 h3 => hf2 g' h2 h3⟩
          · rcases z.2 with y | ⟨w, y1, y2, y3, y4⟩
            · rw [ev] at y; cases y.1
            · rw [ev] at y1; cases y1; exact Or.inr y4
          · obtain ⟨w', y1, y2, y3, y4, y5, y6, y7⟩ := z.2
            rw [ev] at y1; cases y1
            exact Or.inr ⟨y4, y5, by rw [← y4]; exact y6, y7⟩
    · have _b48 := True.intro
      have ev := bmv.mp h48
      refine j_aload_n X (q := 52) d_S_takeRead_51 rfl rfl ?_
      refine j_aload_n X (q := 53) d_S_takeRead_52 rfl rfl ?_
      refine j_aload_n X (q := 54) d_S_takeRead_53 rfl rfl ?_
      refine j_getR X (C := jR2) (T := jT2) (N := 12) (ci := 2) (j := 4) (q := 57) d_S_takeRead_54 ju2 rfl rfl rfl (by decide) wl83 rfl (hC _ _ (by decide)) rfl ?_
      refine j_iload_n X (q := 58) d_S_takeRead_57 rfl rfl ?_
      refine j_iald X (q := 59) d_S_takeRead_58 rfl (by decide) rfl (by omega) (hC _ _ (by decide)) rfl (jHs_rd hs hr) ?_
      refine j_aload_n X (q := 60) d_S_takeRead_59 rfl rfl ?_
      refine j_getR X (C := jR2) (T := jT2) (N := 12) (ci := 2) (j := 5) (q := 63) d_S_takeRead_60 ju2 rfl rfl rfl (by decide) wl86 rfl (hC _ _ (by decide)) rfl ?_
      refine j_iload_n X (q := 64) d_S_takeRead_63 rfl rfl ?_
      refine j_iald X (q := 65) d_S_takeRead_64 rfl (by decide) rfl (by omega) (hC _ _ (by decide)) rfl (jHs_ri hs hr) ?_
      refine j_callV X (n := 3) (C := jR3) (T := jT3) (N := 5) d_S_takeRead_65 (c_S_takeFirstRead hI hC hw hs hz b1 b2) rfl rfl (hC _ _ (by decide)) wl305 wl306 wl10 wl41 wl307 (by decide +kernel) ⟨rfl, rfl⟩ (by decide) rfl rfl (Nat.le_of_ble_eq_true rfl) rfl (q := 68) rfl (fun r65 τ65 e65 => ?_)
      obtain ⟨rfl, hz2, hf2⟩ := e65
      refine j_goto X (tgt := 112) d_S_takeRead_68 (by decide) ?_
      refine j_vret X d_S_takeRead_112 ?_
      have hsd : jd (jsdr h r) = true := jd_iff.mpr ⟨fun o q => (by rw [eo] at q; cases q), fun _ w q => (by rw [ev] at q; cases q)⟩
      refine ⟨rfl, jZs_ext hz2 (fun t u _ _ => ⟨fun q => q.elim Or.inl (fun z => Or.inr ⟨eo, Or.inl ⟨ev, z⟩⟩), fun q => q.elim Or.inl (fun z => ?_)⟩) (fun w t u _ _ _ => ⟨Or.inl, fun q => q.elim id (fun z => ?_)⟩) (by rw [hsd, Bool.and_true]), fun g' _ h2 _ => hf2 g' h2⟩
      · rcases z.2 with y | ⟨w, y1, _⟩
        · exact Or.inr y.2
        · rw [ev] at y1; cases y1
      · obtain ⟨w', y1, _⟩ := z.2
        rw [ev] at y1; cases y1
  · have _b14 := True.intro
    have eo : hyro h r ≠ none := fun q => h14 (bmo.mpr q)
    refine j_aload_n X (q := 18) d_S_takeRead_17 rfl rfl ?_
    refine j_aload_n X (q := 19) d_S_takeRead_18 rfl rfl ?_
    refine j_getI X (C := jR3) (T := jT3) (N := 5) (ci := 3) (j := 4) (q := 22) d_S_takeRead_19 ju3 rfl rfl rfl (by decide) wl160 rfl (hC _ _ (by decide)) rfl hz.2.1 ?_
    refine j_bif_eq X (tgt := 39) (q := 25) d_S_takeRead_22 (by decide) rfl (fun h22 => ?_) (fun h22 => ?_)
    · have _b22 := True.intro
      have hb : nI 0 = jB (sd && jd (jsdr h r)) := by rw [h22]; rfl
      refine j_iconst X (v := (nI 0)) (q := 40) d_S_takeRead_39 (by decide +kernel) rfl ?_
      refine jxW.cast rfl (show _ = [.inl (jB (sd && jd (jsdr h r))), .inr (30, 0)] by rw [← hb]) rfl ?_
      refine j_putI X (C := jR3) (T := jT3) (N := 5) (ci := 3) (j := 4) (q := 43) d_S_takeRead_40 ju3 rfl rfl jt3 jt3_ok jn3 rfl (by decide) wl160 rfl (hC _ _ (by decide)) rfl rfl (ty := .boolean) rfl (jB_narrow _) (jB_fits _) ?_
      refine j_goto X (tgt := 112) d_S_takeRead_43 (by decide) ?_
      refine j_vret X d_S_takeRead_112 ?_
      exact ⟨rfl, jZs_ext (jZs_sd hz _) (fun t u _ _ => ⟨Or.inl, fun q => q.elim id (fun z => absurd z.1 eo)⟩) (fun w t u _ _ _ => ⟨Or.inl, fun q => q.elim id (fun z => absurd z.1 eo)⟩) rfl, fun g' h1 _ _ => jxs_g _ _ _ _ _ h1⟩
    · have _b22 := True.intro
      refine j_iload_n X (q := 26) d_S_takeRead_25 rfl rfl ?_
      refine j_aload_n X (q := 27) d_S_takeRead_26 rfl rfl ?_
      refine j_getR X (C := jR2) (T := jT2) (N := 12) (ci := 2) (j := 7) (q := 30) d_S_takeRead_27 ju2 rfl rfl rfl (by decide) wl91 rfl (hC _ _ (by decide)) rfl ?_
      refine j_iload_n X (q := 31) d_S_takeRead_30 rfl rfl ?_
      refine j_iald X (q := 32) d_S_takeRead_31 rfl (by decide) rfl (by omega) (hC _ _ (by decide)) rfl (jHs_ro hs hr) ?_
      refine j_icmp_ne X (tgt := 39) (q := 35) d_S_takeRead_32 (by decide) rfl (fun h32 => ?_) (fun h32 => ?_)
      · have _b32 := True.intro
        have hb : nI 0 = jB (sd && jd (jsdr h r)) := by
          rw [jd_no.mpr (fun q => h32 (by
            obtain ⟨o, eo2⟩ := Option.ne_none_iff_exists'.mp eo
            rw [eo2, q.1 o eo2])), Bool.and_false]
          rfl
        refine j_iconst X (v := (nI 0)) (q := 40) d_S_takeRead_39 (by decide +kernel) rfl ?_
        refine jxW.cast rfl (show _ = [.inl (jB (sd && jd (jsdr h r))), .inr (30, 0)] by rw [← hb]) rfl ?_
        refine j_putI X (C := jR3) (T := jT3) (N := 5) (ci := 3) (j := 4) (q := 43) d_S_takeRead_40 ju3 rfl rfl jt3 jt3_ok jn3 rfl (by decide) wl160 rfl (hC _ _ (by decide)) rfl rfl (ty := .boolean) rfl (jB_narrow _) (jB_fits _) ?_
        refine j_goto X (tgt := 112) d_S_takeRead_43 (by decide) ?_
        refine j_vret X d_S_takeRead_112 ?_
        exact ⟨rfl, jZs_ext (jZs_sd hz _) (fun t u _ _ => ⟨Or.inl, fun q => q.elim id (fun z => absurd z.1 eo)⟩) (fun w t u _ _ _ => ⟨Or.inl, fun q => q.elim id (fun z => absurd z.1 eo)⟩) rfl, fun g' h1 _ _ => jxs_g _ _ _ _ _ h1⟩
      · have _b32 := True.intro
        have hb : nI 1 = jB (sd && jd (jsdr h r)) := by
          have e := (vI_inj br1 br2).mp h32
          rw [h22, jd_iff.mpr ⟨fun o ho => by rw [e]; exact ho, fun q => absurd q eo⟩]
          rfl
        refine j_iconst X (v := (nI 1)) (q := 36) d_S_takeRead_35 (by decide +kernel) rfl ?_
        refine j_goto X (tgt := 40) d_S_takeRead_36 (by decide) ?_
        refine jxW.cast rfl (show _ = [.inl (jB (sd && jd (jsdr h r))), .inr (30, 0)] by rw [← hb]) rfl ?_
        refine j_putI X (C := jR3) (T := jT3) (N := 5) (ci := 3) (j := 4) (q := 43) d_S_takeRead_40 ju3 rfl rfl jt3 jt3_ok jn3 rfl (by decide) wl160 rfl (hC _ _ (by decide)) rfl rfl (ty := .boolean) rfl (jB_narrow _) (jB_fits _) ?_
        refine j_goto X (tgt := 112) d_S_takeRead_43 (by decide) ?_
        refine j_vret X d_S_takeRead_112 ?_
        exact ⟨rfl, jZs_ext (jZs_sd hz _) (fun t u _ _ => ⟨Or.inl, fun q => q.elim id (fun z => absurd z.1 eo)⟩) (fun w t u _ _ _ => ⟨Or.inl, fun q => q.elim id (fun z => absurd z.1 eo)⟩) rfl, fun g' h1 _ _ => jxs_g _ _ _ _ _ h1⟩
