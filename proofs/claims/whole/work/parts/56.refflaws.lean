/-! The reference: flaws and level. -/
def jdE (h : jH) (v : jV) (e : Nat) : Prop := evb v e = false ∧ hyS h (evw v e) = 2 ∧ ∃ w, evv v e = some w ∧ hyS h (hyW h w) ≠ 2
def jbE (h : jH) (v : jV) (e : Nat) : Prop := evb v e = false ∧ hyS h (evw v e) = 2 ∧ ∃ w, evv v e = some w ∧ hyW h w ≠ evw v e ∧ hyS h (hyW h w) = 2 ∧ hylt h (hyW h w) (hyI h w) ≠ some w
theorem jdE_ab {h : jH} {v : jV} (hv : jVc h v) : jd (∃ e, e < evE v ∧ jdE h v e) = jd (∃ r, r < hyR h ∧ jab h r) := by
  obtain ⟨-, -, -, -, ⟨pe, p1, p2⟩, -⟩ := hv
  refine jd_ext ⟨fun ⟨e, he, q0, q1, w, q2, q3⟩ => ?_, fun ⟨r, hr, q1, w, q2, q3⟩ => ?_⟩
  · obtain ⟨r, hr, rfl⟩ := p2 e he q0
    obtain ⟨r1, r2, r3, r4, r5, r6⟩ := p1 r hr
    exact ⟨r, hr, by rw [← r3]; exact q1, w, by rw [← r5]; exact q2, q3⟩
  · obtain ⟨r1, r2, r3, r4, r5, r6⟩ := p1 r hr
    exact ⟨pe r, r1, r2, by rw [r3]; exact q1, w, by rw [r5]; exact q2, q3⟩
theorem jbE_un {h : jH} {v : jV} (hv : jVc h v) : jd (∃ e, e < evE v ∧ jbE h v e) = jd (∃ r, r < hyR h ∧ jun h r) := by
  obtain ⟨-, -, -, -, ⟨pe, p1, p2⟩, -⟩ := hv
  refine jd_ext ⟨fun ⟨e, he, q0, q1, w, q2, q3⟩ => ?_, fun ⟨r, hr, q1, w, q2, q3⟩ => ?_⟩
  · obtain ⟨r, hr, rfl⟩ := p2 e he q0
    obtain ⟨r1, r2, r3, r4, r5, r6⟩ := p1 r hr
    exact ⟨r, hr, by rw [← r3]; exact q1, w, by rw [← r5]; exact q2, by rw [← r3]; exact q3⟩
  · obtain ⟨r1, r2, r3, r4, r5, r6⟩ := p1 r hr
    exact ⟨pe r, r1, r2, by rw [r3]; exact q1, w, by rw [r5]; exact q2, by rw [r3]; exact q3⟩
theorem jdec_t {p : Prop} [Decidable p] (h : decide p = true) : p := of_decide_eq_true h
theorem jdec_f {p : Prop} [Decidable p] (h : decide p = false) : ¬ p := of_decide_eq_false h
set_option maxRecDepth 100000 in
set_option maxHeartbeats 4000000 in
theorem c_M_readFlaws {l : Launch} {Θ : jxT} (hI : jxI Θ) (hC : ∀ g r, r < jrwM g → Θ.2.2.2 g r) {h : jH} {v : jV} {σ : jxM} (hw : jHw h) (hv : jVc h v) (hm : jMs h v σ)  : jxMet l y_M_readFlaws b_M_readFlaws 7 (some FieldType.int) (jrm 2) Θ [.inr (40, 0)] σ (jan (nI (jn (jd (∃ r, r < hyR h ∧ jab h r)) 2 + jn (jd (∃ r, r < hyR h ∧ jun h r)) 4)) σ) := by
  refine jxMet.of (own := "HistoryJudgeModel") hI (by decide) rfl (Nat.le_of_ble_eq_true rfl) (fun Γ X => ?_)
  show jxW Γ Θ (jan (nI (jn (jd (∃ r, r < hyR h ∧ jab h r)) 2 + jn (jd (∃ r, r < hyR h ∧ jun h r)) 4)) σ) 0 [some (.inr (40, 0)), none, none, none, none, none, none] [] σ
  have bV := jHw_V hw
  have bE := jVc_E hw hv
  have K : ∀ (N : Nat) (k : Nat), evE v - k < N → k ≤ evE v → jxW Γ Θ (jan (nI (jn (jd (∃ r, r < hyR h ∧ jab h r)) 2 + jn (jd (∃ r, r < hyR h ∧ jun h r)) 4)) σ) 6 [some (.inr (40, 0)), some (.inl (jB (jd (∃ e, e < k ∧ jdE h v e)))), some (.inl (jB (jd (∃ e, e < k ∧ jbE h v e)))), some (.inl (nI k)), none, none, none] [] σ := by
    intro N
    induction N with
    | zero => intro k hn; exact absurd hn (Nat.not_lt_zero _)
    | succ N ih =>
      intro k hn hk
      refine j_iload_n X (q := 7) d_M_readFlaws_6 rfl rfl ?_
      refine j_aload_n X (q := 8) d_M_readFlaws_7 rfl rfl ?_
      refine j_getI X (C := jR5) (T := jT5) (N := 18) (ci := 5) (j := 6) (q := 11) d_M_readFlaws_8 ju5 rfl rfl rfl (by decide) wl489 rfl (hC _ _ (by decide)) rfl (jMs_E hm) ?_
      refine j_ncmp_ge X (tgt := 153) (q := 14) d_M_readFlaws_11 (by decide) rfl (by omega) (by omega) (fun h11 => ?_) (fun h11 => ?_)
      · have _b11 := True.intro
        have ek : k = evE v := by omega
        subst ek
        rw [jdE_ab hv, jbE_un hv]
        refine j_iload_n X (q := 154) d_M_readFlaws_153 rfl rfl ?_
        refine j_bif_eq X (tgt := 161) (q := 157) d_M_readFlaws_154 (by decide) rfl (fun h154 => ?_) (fun h154 => ?_)
        · have _b154 := True.intro
          refine j_iconst X (v := (nI 0)) (q := 162) d_M_readFlaws_161 (by decide +kernel) rfl ?_
          refine j_iload_n X (q := 163) d_M_readFlaws_162 rfl rfl ?_
          refine j_bif_eq X (tgt := 170) (q := 166) d_M_readFlaws_163 (by decide) rfl (fun h163 => ?_) (fun h163 => ?_)
          · have _b163 := True.intro
            refine j_iconst X (v := (nI 0)) (q := 171) d_M_readFlaws_170 (by decide +kernel) rfl ?_
            refine j_iadd X (q := 172) d_M_readFlaws_171 rfl ?_
            refine j_iret X d_M_readFlaws_172 ?_
            exact ⟨by rw [h154, h163]; rfl, rfl⟩
          · have _b163 := True.intro
            refine j_iconst X (v := (nI 4)) (q := 167) d_M_readFlaws_166 (by decide +kernel) rfl ?_
            refine j_goto X (tgt := 171) d_M_readFlaws_167 (by decide) ?_
            refine j_iadd X (q := 172) d_M_readFlaws_171 rfl ?_
            refine j_iret X d_M_readFlaws_172 ?_
            exact ⟨by rw [h154, h163]; rfl, rfl⟩
        · have _b154 := True.intro
          refine j_iconst X (v := (nI 2)) (q := 158) d_M_readFlaws_157 (by decide +kernel) rfl ?_
          refine j_goto X (tgt := 162) d_M_readFlaws_158 (by decide) ?_
          refine j_iload_n X (q := 163) d_M_readFlaws_162 rfl rfl ?_
          refine j_bif_eq X (tgt := 170) (q := 166) d_M_readFlaws_163 (by decide) rfl (fun h163 => ?_) (fun h163 => ?_)
          · have _b163 := True.intro
            refine j_iconst X (v := (nI 0)) (q := 171) d_M_readFlaws_170 (by decide +kernel) rfl ?_
            refine j_iadd X (q := 172) d_M_readFlaws_171 rfl ?_
            refine j_iret X d_M_readFlaws_172 ?_
            exact ⟨by rw [h154, h163]; rfl, rfl⟩
          · have _b163 := True.intro
            refine j_iconst X (v := (nI 4)) (q := 167) d_M_readFlaws_166 (by decide +kernel) rfl ?_
            refine j_goto X (tgt := 171) d_M_readFlaws_167 (by decide) ?_
            refine j_iadd X (q := 172) d_M_readFlaws_171 rfl ?_
            refine j_iret X d_M_readFlaws_172 ?_
            exact ⟨by rw [h154, h163]; rfl, rfl⟩
      · have _b11 := True.intro
        have c3 := jVc_w hv (show k < evE v by omega)
        have hlt := fun w (q : evv v k = some w) => jVc_v hv (show k < evE v by omega) q
        have J54 : ∀ s : Bool, (s = true ↔ (evb v k = false ∧ hyS h (evw v k) = 2 ∧ ∃ w, evv v k = some w)) → jxW Γ Θ (jan (nI (jn (jd (∃ r, r < hyR h ∧ jab h r)) 2 + jn (jd (∃ r, r < hyR h ∧ jun h r)) 4)) σ) 54 [some (.inr (40, 0)), some (.inl (jB (jd (∃ e, e < k ∧ jdE h v e)))), some (.inl (jB (jd (∃ e, e < k ∧ jbE h v e)))), some (.inl (nI k)), some (.inl (vI (evv v k))), none, none] [.inl (jB s)] σ := by
          intro s hs
          refine j_istore X (q := 56) d_M_readFlaws_54 (Nat.le_of_ble_eq_true rfl) rfl ?_
          have J77 : ∀ b, b < 8 → (s = true → ∃ w, evv v k = some w ∧ b = hyW h w) → jxW Γ Θ (jan (nI (jn (jd (∃ r, r < hyR h ∧ jab h r)) 2 + jn (jd (∃ r, r < hyR h ∧ jun h r)) 4)) σ) 77 [some (.inr (40, 0)), some (.inl (jB (jd (∃ e, e < k ∧ jdE h v e)))), some (.inl (jB (jd (∃ e, e < k ∧ jbE h v e)))), some (.inl (nI k)), some (.inl (vI (evv v k))), some (.inl (jB s)), none] [.inl (nI b)] σ := by
            intro b hb hbs
            refine j_istore X (q := 79) d_M_readFlaws_77 (Nat.le_of_ble_eq_true rfl) rfl ?_
            have J102 : jxW Γ Θ (jan (nI (jn (jd (∃ r, r < hyR h ∧ jab h r)) 2 + jn (jd (∃ r, r < hyR h ∧ jun h r)) 4)) σ) 102 [some (.inr (40, 0)), some (.inl (jB (jd (∃ e, e < k ∧ jdE h v e)))), some (.inl (jB (jd (∃ e, e < k ∧ jbE h v e)))), some (.inl (nI k)), some (.inl (vI (evv v k))), some (.inl (jB s)), some (.inl (nI b))] [.inl (jB (jd (∃ e, e < (k + 1) ∧ jdE h v e)))] σ := by
              refine j_istore_n X (j := 1) (q := 103) d_M_readFlaws_102 rfl (Nat.le_of_ble_eq_true rfl) rfl ?_
              have J146 : jxW Γ Θ (jan (nI (jn (jd (∃ r, r < hyR h ∧ jab h r)) 2 + jn (jd (∃ r, r < hyR h ∧ jun h r)) 4)) σ) 146 [some (.inr (40, 0)), some (.inl (jB (jd (∃ e, e < (k + 1) ∧ jdE h v e)))), some (.inl (jB (jd (∃ e, e < k ∧ jbE h v e)))), some (.inl (nI k)), some (.inl (vI (evv v k))), some (.inl (jB s)), some (.inl (nI b))] [.inl (jB (jd (∃ e, e < (k + 1) ∧ jbE h v e)))] σ := by
                refine j_istore_n X (j := 2) (q := 147) d_M_readFlaws_146 rfl (Nat.le_of_ble_eq_true rfl) rfl ?_
                refine j_iinc X (q := 150) d_M_readFlaws_147 rfl (j_inc1 _) rfl ?_
                refine j_goto X (tgt := 6) d_M_readFlaws_150 (by decide) ?_
                refine jxW.to (L' := [some (.inr (40, 0)), some (.inl (jB (jd (∃ e, e < (k + 1) ∧ jdE h v e)))), some (.inl (jB (jd (∃ e, e < (k + 1) ∧ jbE h v e)))), some (.inl (nI (k + 1))), none, none, none]) (by simp [jfg]) ?_
                exact ih (k + 1) (by omega) (by omega)
              refine j_iload_n X (q := 104) d_M_readFlaws_103 rfl rfl ?_
              refine j_bif_ne X (tgt := 141) (q := 107) d_M_readFlaws_104 (by decide) rfl (fun h104 => ?_) (fun h104 => ?_)
              · have _b104 := True.intro
                refine j_iconst X (v := (nI 1)) (q := 142) d_M_readFlaws_141 (by decide +kernel) rfl ?_
                refine j_goto X (tgt := 146) d_M_readFlaws_142 (by decide) ?_
                refine jxW.cast rfl (show _ = [.inl (jB (jd (∃ e, e < (k + 1) ∧ jbE h v e)))] from congrArg (fun z => [Sum.inl z]) (jor1 h104)) rfl ?_
                exact J146
              · have _b104 := True.intro
                refine j_iload X (q := 109) d_M_readFlaws_107 rfl rfl ?_
                refine j_bif_eq X (tgt := 145) (q := 112) d_M_readFlaws_109 (by decide) rfl (fun h109 => ?_) (fun h109 => ?_)
                · have _b109 := True.intro
                  refine j_iconst X (v := (nI 0)) (q := 146) d_M_readFlaws_145 (by decide +kernel) rfl ?_
                  refine jxW.cast rfl (show _ = [.inl (jB (jd (∃ e, e < (k + 1) ∧ jbE h v e)))] from congrArg (fun z => [Sum.inl z]) (jor0 h104 (fun q => by have := hs.mpr ⟨q.1, q.2.1, q.2.2.choose, q.2.2.choose_spec.1⟩; rw [h109] at this; cases this))) rfl ?_
                  exact J146
                · have _b109 := True.intro
                  obtain ⟨s1, s2, -⟩ := hs.mp h109
                  obtain ⟨w, ew, eb⟩ := hbs h109
                  have bw := hlt w ew
                  refine j_iload X (q := 114) d_M_readFlaws_112 rfl rfl ?_
                  refine j_aload_n X (q := 115) d_M_readFlaws_114 rfl rfl ?_
                  refine j_getR X (C := jR5) (T := jT5) (N := 18) (ci := 5) (j := 7) (q := 118) d_M_readFlaws_115 ju5 rfl rfl rfl (by decide) wl490 rfl (hC _ _ (by decide)) rfl ?_
                  refine j_iload_n X (q := 119) d_M_readFlaws_118 rfl rfl ?_
                  refine j_iald X (q := 120) d_M_readFlaws_119 rfl (by decide) rfl (by omega) (hC _ _ (by decide)) rfl (jMs_w hm (show k < evE v by omega)) ?_
                  refine j_ncmp_eq X (tgt := 145) (q := 123) d_M_readFlaws_120 (by decide) rfl (by omega) (by have := c3; omega) (fun h120 => ?_) (fun h120 => ?_)
                  · have _b120 := True.intro
                    refine j_iconst X (v := (nI 0)) (q := 146) d_M_readFlaws_145 (by decide +kernel) rfl ?_
                    refine jxW.cast rfl (show _ = [.inl (jB (jd (∃ e, e < (k + 1) ∧ jbE h v e)))] from congrArg (fun z => [Sum.inl z]) (jor0 h104 (fun q => by obtain ⟨w2, g1, g2⟩ := q.2.2; rw [ew] at g1; cases g1; exact g2.1 (by rw [← eb]; exact h120)))) rfl ?_
                    exact J146
                  · have _b120 := True.intro
                    refine j_aload_n X (q := 124) d_M_readFlaws_123 rfl rfl ?_
                    refine j_iload X (q := 126) d_M_readFlaws_124 rfl rfl ?_
                    refine j_callV X (n := 1) (C := jR5) (T := jT5) (N := 18) d_M_readFlaws_126 (c_M_isCommitted hI hC hw hv hm hb) rfl rfl (hC _ _ (by decide)) wl574 wl575 wl19 wl42 wl576 (by decide +kernel) ⟨rfl, rfl⟩ (by decide) rfl rfl (Nat.le_of_ble_eq_true rfl) rfl (q := 129) rfl (fun r126 τ126 e126 => ?_)
                    obtain ⟨rfl, rfl⟩ := e126
                    refine j_bif_eq X (tgt := 145) (q := 132) d_M_readFlaws_129 (by decide) rfl (fun h129 => ?_) (fun h129 => ?_)
                    · have _b129 := True.intro
                      refine j_iconst X (v := (nI 0)) (q := 146) d_M_readFlaws_145 (by decide +kernel) rfl ?_
                      refine jxW.cast rfl (show _ = [.inl (jB (jd (∃ e, e < (k + 1) ∧ jbE h v e)))] from congrArg (fun z => [Sum.inl z]) (jor0 h104 (fun q => by obtain ⟨w2, g1, g2⟩ := q.2.2; rw [ew] at g1; cases g1; exact jdec_f h129 (by rw [eb]; exact g2.2.1)))) rfl ?_
                      exact J146
                    · have _b129 := True.intro
                      refine j_aload_n X (q := 133) d_M_readFlaws_132 rfl rfl ?_
                      refine j_iload X (q := 135) d_M_readFlaws_133 rfl rfl ?_
                      refine jxW.cast rfl (show _ = [.inl (nI w), .inr (40, 0)] by rw [ew]; rfl) rfl ?_
                      refine j_callV X (n := 1) (C := jR5) (T := jT5) (N := 18) d_M_readFlaws_135 (c_M_isFinal hI hC hw hv (jMs_mv hm) (w := w) bw) rfl rfl (hC _ _ (by decide)) wl548 wl549 wl17 wl42 wl550 (by decide +kernel) ⟨rfl, rfl⟩ (by decide) rfl rfl (Nat.le_of_ble_eq_true rfl) rfl (q := 138) rfl (fun r135 τ135 e135 => ?_)
                      obtain ⟨rfl, rfl⟩ := e135
                      refine j_bif_ne X (tgt := 145) (q := 141) d_M_readFlaws_138 (by decide) rfl (fun h138 => ?_) (fun h138 => ?_)
                      · have _b138 := True.intro
                        refine j_iconst X (v := (nI 0)) (q := 146) d_M_readFlaws_145 (by decide +kernel) rfl ?_
                        refine jxW.cast rfl (show _ = [.inl (jB (jd (∃ e, e < (k + 1) ∧ jbE h v e)))] from congrArg (fun z => [Sum.inl z]) (jor0 h104 (fun q => by obtain ⟨w2, g1, g2⟩ := q.2.2; rw [ew] at g1; cases g1; exact g2.2.2 (jdec_t h138)))) rfl ?_
                        exact J146
                      · have _b138 := True.intro
                        refine j_iconst X (v := (nI 1)) (q := 142) d_M_readFlaws_141 (by decide +kernel) rfl ?_
                        refine j_goto X (tgt := 146) d_M_readFlaws_142 (by decide) ?_
                        refine jxW.cast rfl (show _ = [.inl (jB (jd (∃ e, e < (k + 1) ∧ jbE h v e)))] from congrArg (fun z => [Sum.inl z]) (jor2 ⟨s1, s2, w, ew, by rw [← eb]; exact h120, by rw [← eb]; exact jdec_t h129, jdec_f h138⟩)) rfl ?_
                        exact J146
            refine j_iload_n X (q := 80) d_M_readFlaws_79 rfl rfl ?_
            refine j_bif_ne X (tgt := 97) (q := 83) d_M_readFlaws_80 (by decide) rfl (fun h80 => ?_) (fun h80 => ?_)
            · have _b80 := True.intro
              refine j_iconst X (v := (nI 1)) (q := 98) d_M_readFlaws_97 (by decide +kernel) rfl ?_
              refine j_goto X (tgt := 102) d_M_readFlaws_98 (by decide) ?_
              refine jxW.cast rfl (show _ = [.inl (jB (jd (∃ e, e < (k + 1) ∧ jdE h v e)))] from congrArg (fun z => [Sum.inl z]) (jor1 h80)) rfl ?_
              exact J102
            · have _b80 := True.intro
              refine j_iload X (q := 85) d_M_readFlaws_83 rfl rfl ?_
              refine j_bif_eq X (tgt := 101) (q := 88) d_M_readFlaws_85 (by decide) rfl (fun h85 => ?_) (fun h85 => ?_)
              · have _b85 := True.intro
                refine j_iconst X (v := (nI 0)) (q := 102) d_M_readFlaws_101 (by decide +kernel) rfl ?_
                refine jxW.cast rfl (show _ = [.inl (jB (jd (∃ e, e < (k + 1) ∧ jdE h v e)))] from congrArg (fun z => [Sum.inl z]) (jor0 h80 (fun q => by have := hs.mpr ⟨q.1, q.2.1, q.2.2.choose, q.2.2.choose_spec.1⟩; rw [h85] at this; cases this))) rfl ?_
                exact J102
              · have _b85 := True.intro
                obtain ⟨s1, s2, -⟩ := hs.mp h85
                obtain ⟨w, ew, eb⟩ := hbs h85
                refine j_aload_n X (q := 89) d_M_readFlaws_88 rfl rfl ?_
                refine j_iload X (q := 91) d_M_readFlaws_89 rfl rfl ?_
                refine j_callV X (n := 1) (C := jR5) (T := jT5) (N := 18) d_M_readFlaws_91 (c_M_isCommitted hI hC hw hv hm hb) rfl rfl (hC _ _ (by decide)) wl574 wl575 wl19 wl42 wl576 (by decide +kernel) ⟨rfl, rfl⟩ (by decide) rfl rfl (Nat.le_of_ble_eq_true rfl) rfl (q := 94) rfl (fun r91 τ91 e91 => ?_)
                obtain ⟨rfl, rfl⟩ := e91
                refine j_bif_ne X (tgt := 101) (q := 97) d_M_readFlaws_94 (by decide) rfl (fun h94 => ?_) (fun h94 => ?_)
                · have _b94 := True.intro
                  refine j_iconst X (v := (nI 0)) (q := 102) d_M_readFlaws_101 (by decide +kernel) rfl ?_
                  refine jxW.cast rfl (show _ = [.inl (jB (jd (∃ e, e < (k + 1) ∧ jdE h v e)))] from congrArg (fun z => [Sum.inl z]) (jor0 h80 (fun q => by obtain ⟨w2, g1, g2⟩ := q.2.2; rw [ew] at g1; cases g1; rw [eb] at h94; exact g2 (jdec_t h94)))) rfl ?_
                  exact J102
                · have _b94 := True.intro
                  refine j_iconst X (v := (nI 1)) (q := 98) d_M_readFlaws_97 (by decide +kernel) rfl ?_
                  refine j_goto X (tgt := 102) d_M_readFlaws_98 (by decide) ?_
                  refine jxW.cast rfl (show _ = [.inl (jB (jd (∃ e, e < (k + 1) ∧ jdE h v e)))] from congrArg (fun z => [Sum.inl z]) (jor2 ⟨s1, s2, w, ew, by rw [← eb]; exact jdec_f h94⟩)) rfl ?_
                  exact J102
          refine j_iload X (q := 58) d_M_readFlaws_56 rfl rfl ?_
          refine j_bif_eq X (tgt := 71) (q := 61) d_M_readFlaws_58 (by decide) rfl (fun h58 => ?_) (fun h58 => ?_)
          · have _b58 := True.intro
            refine j_aload_n X (q := 72) d_M_readFlaws_71 rfl rfl ?_
            refine j_getR X (C := jR5) (T := jT5) (N := 18) (ci := 5) (j := 7) (q := 75) d_M_readFlaws_72 ju5 rfl rfl rfl (by decide) wl490 rfl (hC _ _ (by decide)) rfl ?_
            refine j_iload_n X (q := 76) d_M_readFlaws_75 rfl rfl ?_
            refine j_iald X (q := 77) d_M_readFlaws_76 rfl (by decide) rfl (by omega) (hC _ _ (by decide)) rfl (jMs_w hm (show k < evE v by omega)) ?_
            exact J77 _ c3 (fun q => by rw [h58] at q; cases q)
          · have _b58 := True.intro
            obtain ⟨s1, s2, w, ew⟩ := hs.mp h58
            have bw := hlt w ew
            refine j_aload_n X (q := 62) d_M_readFlaws_61 rfl rfl ?_
            refine j_getR X (C := jR5) (T := jT5) (N := 18) (ci := 5) (j := 3) (q := 65) d_M_readFlaws_62 ju5 rfl rfl rfl (by decide) wl486 rfl (hC _ _ (by decide)) rfl ?_
            refine j_iload X (q := 67) d_M_readFlaws_65 rfl rfl ?_
            refine j_iald X (j := w) (q := 68) d_M_readFlaws_67 rfl (by decide) (show vI (evv v k) = nI w by rw [ew]; rfl) (by omega) (hC _ _ (by decide)) rfl (jMs_W hm bw) ?_
            refine j_goto X (tgt := 77) d_M_readFlaws_68 (by decide) ?_
            exact J77 _ (jHw_W hw bw) (fun _ => ⟨w, ew, rfl⟩)
        refine j_aload_n X (q := 15) d_M_readFlaws_14 rfl rfl ?_
        refine j_getR X (C := jR5) (T := jT5) (N := 18) (ci := 5) (j := 9) (q := 18) d_M_readFlaws_15 ju5 rfl rfl rfl (by decide) wl492 rfl (hC _ _ (by decide)) rfl ?_
        refine j_iload_n X (q := 19) d_M_readFlaws_18 rfl rfl ?_
        refine j_iald X (q := 20) d_M_readFlaws_19 rfl (by decide) rfl (by omega) (hC _ _ (by decide)) rfl (jMs_v hm (show k < evE v by omega)) ?_
        refine j_istore X (q := 22) d_M_readFlaws_20 (Nat.le_of_ble_eq_true rfl) rfl ?_
        refine j_aload_n X (q := 23) d_M_readFlaws_22 rfl rfl ?_
        refine j_getR X (C := jR5) (T := jT5) (N := 18) (ci := 5) (j := 10) (q := 26) d_M_readFlaws_23 ju5 rfl rfl rfl (by decide) wl493 rfl (hC _ _ (by decide)) rfl ?_
        refine j_iload_n X (q := 27) d_M_readFlaws_26 rfl rfl ?_
        refine j_zald X (q := 28) d_M_readFlaws_27 rfl (by decide) rfl (by omega) (hC _ _ (by decide)) rfl (jMs_b hm (show k < evE v by omega)) ?_
        refine j_bif_ne X (tgt := 53) (q := 31) d_M_readFlaws_28 (by decide) rfl (fun h28 => ?_) (fun h28 => ?_)
        · have _b28 := True.intro
          refine j_iconst X (v := (nI 0)) (q := 54) d_M_readFlaws_53 (by decide +kernel) rfl ?_
          exact J54 false ⟨fun q => (by cases q), fun q => by rw [h28] at q; cases q.1⟩
        · have _b28 := True.intro
          refine j_aload_n X (q := 32) d_M_readFlaws_31 rfl rfl ?_
          refine j_aload_n X (q := 33) d_M_readFlaws_32 rfl rfl ?_
          refine j_getR X (C := jR5) (T := jT5) (N := 18) (ci := 5) (j := 7) (q := 36) d_M_readFlaws_33 ju5 rfl rfl rfl (by decide) wl490 rfl (hC _ _ (by decide)) rfl ?_
          refine j_iload_n X (q := 37) d_M_readFlaws_36 rfl rfl ?_
          refine j_iald X (q := 38) d_M_readFlaws_37 rfl (by decide) rfl (by omega) (hC _ _ (by decide)) rfl (jMs_w hm (show k < evE v by omega)) ?_
          refine j_callV X (n := 1) (C := jR5) (T := jT5) (N := 18) d_M_readFlaws_38 (c_M_isCommitted hI hC hw hv hm (jVc_w hv (show k < evE v by omega))) rfl rfl (hC _ _ (by decide)) wl574 wl575 wl19 wl42 wl576 (by decide +kernel) ⟨rfl, rfl⟩ (by decide) rfl rfl (Nat.le_of_ble_eq_true rfl) rfl (q := 41) rfl (fun r38 τ38 e38 => ?_)
          obtain ⟨rfl, rfl⟩ := e38
          refine j_bif_eq X (tgt := 53) (q := 44) d_M_readFlaws_41 (by decide) rfl (fun h41 => ?_) (fun h41 => ?_)
          · have _b41 := True.intro
            refine j_iconst X (v := (nI 0)) (q := 54) d_M_readFlaws_53 (by decide +kernel) rfl ?_
            exact J54 false ⟨fun q => (by cases q), fun q => absurd q.2.1 (jdec_f h41)⟩
          · have _b41 := True.intro
            refine j_iload X (q := 46) d_M_readFlaws_44 rfl rfl ?_
            refine j_if_lt X (tgt := 53) (q := 49) d_M_readFlaws_46 (by decide) rfl (fun h46 => ?_) (fun h46 => ?_)
            · have _b46 := True.intro
              have en : evv v k = none := (vI_neg (fun w q => by have := hlt w q; omega)).mp h46
              refine j_iconst X (v := (nI 0)) (q := 54) d_M_readFlaws_53 (by decide +kernel) rfl ?_
              exact J54 false ⟨fun q => (by cases q), fun q => by obtain ⟨w, z⟩ := q.2.2; rw [en] at z; cases z⟩
            · have _b46 := True.intro
              obtain ⟨w, ew⟩ : ∃ w, evv v k = some w := by
                cases e : evv v k with
                | some n => exact ⟨n, rfl⟩
                | none => exact absurd ((vI_neg (fun w q => by have := hlt w q; omega)).mpr e) h46
              refine j_iconst X (v := (nI 1)) (q := 50) d_M_readFlaws_49 (by decide +kernel) rfl ?_
              refine j_goto X (tgt := 54) d_M_readFlaws_50 (by decide) ?_
              exact J54 true ⟨fun _ => ⟨h28, jdec_t h41, w, ew⟩, fun _ => rfl⟩
  refine j_iconst X (v := (nI 0)) (q := 1) d_M_readFlaws_0 (by decide +kernel) rfl ?_
  refine j_istore_n X (j := 1) (q := 2) d_M_readFlaws_1 rfl (Nat.le_of_ble_eq_true rfl) rfl ?_
  refine j_iconst X (v := (nI 0)) (q := 3) d_M_readFlaws_2 (by decide +kernel) rfl ?_
  refine j_istore_n X (j := 2) (q := 4) d_M_readFlaws_3 rfl (Nat.le_of_ble_eq_true rfl) rfl ?_
  refine j_iconst X (v := (nI 0)) (q := 5) d_M_readFlaws_4 (by decide +kernel) rfl ?_
  refine j_istore_n X (j := 3) (q := 6) d_M_readFlaws_5 rfl (Nat.le_of_ble_eq_true rfl) rfl ?_
  refine jxW.to (L' := [some (.inr (40, 0)), some (.inl (jB (jd (∃ e, e < 0 ∧ jdE h v e)))), some (.inl (jB (jd (∃ e, e < 0 ∧ jbE h v e)))), some (.inl (nI 0)), none, none, none]) (by simp [jfg]; rw [jd_no.mpr id]; rfl) ?_
  exact K 102 0 (by omega) (by omega)
theorem jHasC_M {h : jH} {k len : Nat} {σ' : jxM} (hk : k < 4) (hc : ∀ k', k' < 4 → nI k = nI k' → (len = 0 → ∀ n r, 2 ≤ n → n ≤ 8 → ¬ jSc h k' n r) ∧ (len ≠ 0 → ∃ row : Nat → Nat, (∀ i, i < len → σ' 51 0 i = nI (row i)) ∧ jmn (jSc h k') len row)) : jd (jHasC h k) = decide (len ≠ 0) := by
  obtain ⟨h0, h1⟩ := hc k hk rfl
  by_cases e : len = 0
  · rw [decide_eq_false (fun q => q e)]
    exact jd_no.mpr (fun ⟨n, r, a, b, c⟩ => h0 e n r a b c)
  · rw [decide_eq_true e]
    obtain ⟨row, -, hm⟩ := h1 e
    exact jd_iff.mpr ⟨len, row, hm.1, hm.2.1, hm.2.2.1⟩
def jf5 (σ τ : jxM) : Prop := ∀ g', g' < 50 ∨ 52 < g' → τ g' = σ g'
theorem jf5_tr {σ τ ρ : jxM} (a : jf5 σ τ) (b : jf5 τ ρ) : jf5 σ ρ := fun g hg => by rw [b g hg, a g hg]
theorem jflw_eq (h : jH) : nI (jn (jd (∃ r, r < hyR h ∧ jab h r)) 2 + jn (jd (∃ r, r < hyR h ∧ jun h r)) 4 + jn (jd (jHasC h 0)) 1 + jn (jd (jHasC h 1)) 8 + jn (jd (jHasC h 2)) 16 + jn (jd (jHasC h 3)) 32) = nI (jflw h) := congrArg nI (by unfold jflw; omega)
set_option maxRecDepth 100000 in
set_option maxHeartbeats 4000000 in
theorem c_M_allFlaws {l : Launch} {Θ : jxT} (hI : jxI Θ) (hC : ∀ g r, r < jrwM g → Θ.2.2.2 g r) {h : jH} {v : jV} {σ : jxM} (hw : jHw h) (hv : jVc h v) (hm : jMs h v σ)  : jxMet l y_M_allFlaws b_M_allFlaws 5 (some FieldType.int) (jrm 6) Θ [.inr (40, 0)] σ (fun r' σ' => r' = some (.inl (nI (jflw h))) ∧ jf5 σ σ') := by
  refine jxMet.of (own := "HistoryJudgeModel") hI (by decide) rfl (Nat.le_of_ble_eq_true rfl) (fun Γ X => ?_)
  show jxW Γ Θ (fun r' σ' => r' = some (.inl (nI (jflw h))) ∧ jf5 σ σ') 0 [some (.inr (40, 0)), none, none, none, none] [] σ
  refine j_aload_n X (q := 1) d_M_allFlaws_0 rfl rfl ?_
  refine j_iconst X (v := (nI 0)) (q := 2) d_M_allFlaws_1 (by decide +kernel) rfl ?_
  refine j_callV X (n := 1) (C := jR5) (T := jT5) (N := 18) d_M_allFlaws_2 (c_M_findCycle hI hC hw hv hm (nI 0)) rfl rfl (hC _ _ (by decide)) wl593 wl594 wl24 wl42 wl595 (by decide +kernel) ⟨rfl, rfl⟩ (by decide) rfl rfl (Nat.le_of_ble_eq_true rfl) rfl (q := 5) rfl (fun r2 τ2 e2 => ?_)
  obtain ⟨⟨l0, m0, rfl, -, c0⟩, g0⟩ := e2
  have b0 := jHasC_M (k := 0) (by decide) c0
  have f0 : jf5 σ τ2 := g0
  refine j_istore_n X (j := 1) (q := 6) d_M_allFlaws_5 rfl (Nat.le_of_ble_eq_true rfl) rfl ?_
  refine j_aload_n X (q := 7) d_M_allFlaws_6 rfl rfl ?_
  refine j_iconst X (v := (nI 1)) (q := 8) d_M_allFlaws_7 (by decide +kernel) rfl ?_
  refine j_callV X (n := 1) (C := jR5) (T := jT5) (N := 18) d_M_allFlaws_8 (c_M_findCycle hI hC hw hv (jMs_keep hm (jfm_50 f0)) (nI 1)) rfl rfl (hC _ _ (by decide)) wl593 wl594 wl24 wl42 wl595 (by decide +kernel) ⟨rfl, rfl⟩ (by decide) rfl rfl (Nat.le_of_ble_eq_true rfl) rfl (q := 11) rfl (fun r8 τ8 e8 => ?_)
  obtain ⟨⟨l1, m1, rfl, -, c1⟩, g1⟩ := e8
  have b1 := jHasC_M (k := 1) (by decide) c1
  have f1 : jf5 σ τ8 := jf5_tr f0 g1
  refine j_istore_n X (j := 2) (q := 12) d_M_allFlaws_11 rfl (Nat.le_of_ble_eq_true rfl) rfl ?_
  refine j_aload_n X (q := 13) d_M_allFlaws_12 rfl rfl ?_
  refine j_iconst X (v := (nI 2)) (q := 14) d_M_allFlaws_13 (by decide +kernel) rfl ?_
  refine j_callV X (n := 1) (C := jR5) (T := jT5) (N := 18) d_M_allFlaws_14 (c_M_findCycle hI hC hw hv (jMs_keep hm (jfm_50 f1)) (nI 2)) rfl rfl (hC _ _ (by decide)) wl593 wl594 wl24 wl42 wl595 (by decide +kernel) ⟨rfl, rfl⟩ (by decide) rfl rfl (Nat.le_of_ble_eq_true rfl) rfl (q := 17) rfl (fun r14 τ14 e14 => ?_)
  obtain ⟨⟨l2, m2, rfl, -, c2⟩, g2⟩ := e14
  have b2 := jHasC_M (k := 2) (by decide) c2
  have f2 : jf5 σ τ14 := jf5_tr f1 g2
  refine j_istore_n X (j := 3) (q := 18) d_M_allFlaws_17 rfl (Nat.le_of_ble_eq_true rfl) rfl ?_
  refine j_aload_n X (q := 19) d_M_allFlaws_18 rfl rfl ?_
  refine j_iconst X (v := (nI 3)) (q := 20) d_M_allFlaws_19 (by decide +kernel) rfl ?_
  refine j_callV X (n := 1) (C := jR5) (T := jT5) (N := 18) d_M_allFlaws_20 (c_M_findCycle hI hC hw hv (jMs_keep hm (jfm_50 f2)) (nI 3)) rfl rfl (hC _ _ (by decide)) wl593 wl594 wl24 wl42 wl595 (by decide +kernel) ⟨rfl, rfl⟩ (by decide) rfl rfl (Nat.le_of_ble_eq_true rfl) rfl (q := 23) rfl (fun r20 τ20 e20 => ?_)
  obtain ⟨⟨l3, m3, rfl, -, c3⟩, g3⟩ := e20
  have b3 := jHasC_M (k := 3) (by decide) c3
  have f3 : jf5 σ τ20 := jf5_tr f2 g3
  refine j_istore X (q := 25) d_M_allFlaws_23 (Nat.le_of_ble_eq_true rfl) rfl ?_
  refine j_aload_n X (q := 26) d_M_allFlaws_25 rfl rfl ?_
  refine j_callV X (n := 0) (C := jR5) (T := jT5) (N := 18) d_M_allFlaws_26 (c_M_readFlaws hI hC hw hv (jMs_keep hm (jfm_50 f3))) rfl rfl (hC _ _ (by decide)) wl625 wl626 wl31 wl42 wl627 (by decide +kernel) ⟨rfl, rfl⟩ (by decide) rfl rfl (Nat.le_of_ble_eq_true rfl) rfl (q := 29) rfl (fun r26 τ26 e26 => ?_)
  obtain ⟨rfl, rfl⟩ := e26
  have J72 : jxW Γ Θ (fun r' σ' => r' = some (.inl (nI (jflw h))) ∧ jf5 σ σ') 72 [some (.inr (40, 0)), some (.inl (nI l0)), some (.inl (nI l1)), some (.inl (nI l2)), some (.inl (nI l3))] [.inl (nI (jn (jd (jHasC h 3)) 32)), .inl (nI (jn (jd (∃ r, r < hyR h ∧ jab h r)) 2 + jn (jd (∃ r, r < hyR h ∧ jun h r)) 4 + jn (jd (jHasC h 0)) 1 + jn (jd (jHasC h 1)) 8 + jn (jd (jHasC h 2)) 16))] τ20 := by
    refine j_iadd X (q := 73) d_M_allFlaws_72 rfl ?_
    rw [nI_add]
    refine j_iret X d_M_allFlaws_73 ?_
    exact ⟨by rw [jflw_eq], f3⟩
  have J60 : jxW Γ Θ (fun r' σ' => r' = some (.inl (nI (jflw h))) ∧ jf5 σ σ') 60 [some (.inr (40, 0)), some (.inl (nI l0)), some (.inl (nI l1)), some (.inl (nI l2)), some (.inl (nI l3))] [.inl (nI (jn (jd (jHasC h 2)) 16)), .inl (nI (jn (jd (∃ r, r < hyR h ∧ jab h r)) 2 + jn (jd (∃ r, r < hyR h ∧ jun h r)) 4 + jn (jd (jHasC h 0)) 1 + jn (jd (jHasC h 1)) 8))] τ20 := by
    refine j_iadd X (q := 61) d_M_allFlaws_60 rfl ?_
    rw [nI_add]
    refine j_iload X (q := 63) d_M_allFlaws_61 rfl rfl ?_
    refine j_nif_le X (tgt := 71) (q := 66) d_M_allFlaws_63 (by decide) rfl (by omega) (fun h63 => ?_) (fun h63 => ?_)
    · have _b63 := True.intro
      refine j_iconst X (v := (nI 0)) (q := 72) d_M_allFlaws_71 (by decide +kernel) rfl ?_
      refine jxW.cast rfl (show _ = [.inl (nI (jn (jd (jHasC h 3)) 32)), .inl (nI (jn (jd (∃ r, r < hyR h ∧ jab h r)) 2 + jn (jd (∃ r, r < hyR h ∧ jun h r)) 4 + jn (jd (jHasC h 0)) 1 + jn (jd (jHasC h 1)) 8 + jn (jd (jHasC h 2)) 16))] from congrArg (fun z => Sum.inl z :: _) (by rw [b3, decide_eq_false (fun q => q (by omega))]; rfl)) rfl ?_
      exact J72
    · have _b63 := True.intro
      refine j_bipush X (v := (nI 32)) (q := 68) d_M_allFlaws_66 (by decide +kernel) rfl ?_
      refine j_goto X (tgt := 72) d_M_allFlaws_68 (by decide) ?_
      refine jxW.cast rfl (show _ = [.inl (nI (jn (jd (jHasC h 3)) 32)), .inl (nI (jn (jd (∃ r, r < hyR h ∧ jab h r)) 2 + jn (jd (∃ r, r < hyR h ∧ jun h r)) 4 + jn (jd (jHasC h 0)) 1 + jn (jd (jHasC h 1)) 8 + jn (jd (jHasC h 2)) 16))] from congrArg (fun z => Sum.inl z :: _) (by rw [b3, decide_eq_true (by omega)]; rfl)) rfl ?_
      exact J72
  have J49 : jxW Γ Θ (fun r' σ' => r' = some (.inl (nI (jflw h))) ∧ jf5 σ σ') 49 [some (.inr (40, 0)), some (.inl (nI l0)), some (.inl (nI l1)), some (.inl (nI l2)), some (.inl (nI l3))] [.inl (nI (jn (jd (jHasC h 1)) 8)), .inl (nI (jn (jd (∃ r, r < hyR h ∧ jab h r)) 2 + jn (jd (∃ r, r < hyR h ∧ jun h r)) 4 + jn (jd (jHasC h 0)) 1))] τ20 := by
    refine j_iadd X (q := 50) d_M_allFlaws_49 rfl ?_
    rw [nI_add]
    refine j_iload_n X (q := 51) d_M_allFlaws_50 rfl rfl ?_
    refine j_nif_le X (tgt := 59) (q := 54) d_M_allFlaws_51 (by decide) rfl (by omega) (fun h51 => ?_) (fun h51 => ?_)
    · have _b51 := True.intro
      refine j_iconst X (v := (nI 0)) (q := 60) d_M_allFlaws_59 (by decide +kernel) rfl ?_
      refine jxW.cast rfl (show _ = [.inl (nI (jn (jd (jHasC h 2)) 16)), .inl (nI (jn (jd (∃ r, r < hyR h ∧ jab h r)) 2 + jn (jd (∃ r, r < hyR h ∧ jun h r)) 4 + jn (jd (jHasC h 0)) 1 + jn (jd (jHasC h 1)) 8))] from congrArg (fun z => Sum.inl z :: _) (by rw [b2, decide_eq_false (fun q => q (by omega))]; rfl)) rfl ?_
      exact J60
    · have _b51 := True.intro
      refine j_bipush X (v := (nI 16)) (q := 56) d_M_allFlaws_54 (by decide +kernel) rfl ?_
      refine j_goto X (tgt := 60) d_M_allFlaws_56 (by decide) ?_
      refine jxW.cast rfl (show _ = [.inl (nI (jn (jd (jHasC h 2)) 16)), .inl (nI (jn (jd (∃ r, r < hyR h ∧ jab h r)) 2 + jn (jd (∃ r, r < hyR h ∧ jun h r)) 4 + jn (jd (jHasC h 0)) 1 + jn (jd (jHasC h 1)) 8))] from congrArg (fun z => Sum.inl z :: _) (by rw [b2, decide_eq_true (by omega)]; rfl)) rfl ?_
      exact J60
  have J38 : jxW Γ Θ (fun r' σ' => r' = some (.inl (nI (jflw h))) ∧ jf5 σ σ') 38 [some (.inr (40, 0)), some (.inl (nI l0)), some (.inl (nI l1)), some (.inl (nI l2)), some (.inl (nI l3))] [.inl (nI (jn (jd (jHasC h 0)) 1)), .inl (nI (jn (jd (∃ r, r < hyR h ∧ jab h r)) 2 + jn (jd (∃ r, r < hyR h ∧ jun h r)) 4))] τ20 := by
    refine j_iadd X (q := 39) d_M_allFlaws_38 rfl ?_
    rw [nI_add]
    refine j_iload_n X (q := 40) d_M_allFlaws_39 rfl rfl ?_
    refine j_nif_le X (tgt := 48) (q := 43) d_M_allFlaws_40 (by decide) rfl (by omega) (fun h40 => ?_) (fun h40 => ?_)
    · have _b40 := True.intro
      refine j_iconst X (v := (nI 0)) (q := 49) d_M_allFlaws_48 (by decide +kernel) rfl ?_
      refine jxW.cast rfl (show _ = [.inl (nI (jn (jd (jHasC h 1)) 8)), .inl (nI (jn (jd (∃ r, r < hyR h ∧ jab h r)) 2 + jn (jd (∃ r, r < hyR h ∧ jun h r)) 4 + jn (jd (jHasC h 0)) 1))] from congrArg (fun z => Sum.inl z :: _) (by rw [b1, decide_eq_false (fun q => q (by omega))]; rfl)) rfl ?_
      exact J49
    · have _b40 := True.intro
      refine j_bipush X (v := (nI 8)) (q := 45) d_M_allFlaws_43 (by decide +kernel) rfl ?_
      refine j_goto X (tgt := 49) d_M_allFlaws_45 (by decide) ?_
      refine jxW.cast rfl (show _ = [.inl (nI (jn (jd (jHasC h 1)) 8)), .inl (nI (jn (jd (∃ r, r < hyR h ∧ jab h r)) 2 + jn (jd (∃ r, r < hyR h ∧ jun h r)) 4 + jn (jd (jHasC h 0)) 1))] from congrArg (fun z => Sum.inl z :: _) (by rw [b1, decide_eq_true (by omega)]; rfl)) rfl ?_
      exact J49
  refine j_iload_n X (q := 30) d_M_allFlaws_29 rfl rfl ?_
  refine j_nif_le X (tgt := 37) (q := 33) d_M_allFlaws_30 (by decide) rfl (by omega) (fun h30 => ?_) (fun h30 => ?_)
  · have _b30 := True.intro
    refine j_iconst X (v := (nI 0)) (q := 38) d_M_allFlaws_37 (by decide +kernel) rfl ?_
    refine jxW.cast rfl (show _ = [.inl (nI (jn (jd (jHasC h 0)) 1)), .inl (nI (jn (jd (∃ r, r < hyR h ∧ jab h r)) 2 + jn (jd (∃ r, r < hyR h ∧ jun h r)) 4))] from congrArg (fun z => Sum.inl z :: _) (by rw [b0, decide_eq_false (fun q => q (by omega))]; rfl)) rfl ?_
    exact J38
  · have _b30 := True.intro
    refine j_iconst X (v := (nI 1)) (q := 34) d_M_allFlaws_33 (by decide +kernel) rfl ?_
    refine j_goto X (tgt := 38) d_M_allFlaws_34 (by decide) ?_
    refine jxW.cast rfl (show _ = [.inl (nI (jn (jd (jHasC h 0)) 1)), .inl (nI (jn (jd (∃ r, r < hyR h ∧ jab h r)) 2 + jn (jd (∃ r, r < hyR h ∧ jun h r)) 4))] from congrArg (fun z => Sum.inl z :: _) (by rw [b0, decide_eq_true (by omega)]; rfl)) rfl ?_
    exact J38
set_option maxRecDepth 100000 in
set_option maxHeartbeats 4000000 in
theorem c_M_flaws {l : Launch} {Θ : jxT} (hI : jxI Θ) (hC : ∀ g r, r < jrwM g → Θ.2.2.2 g r) {h : jH} {v : jV} {σ : jxM} (hw : jHw h) (hv : jVc h v) (hm : jMs h v σ)  : jxMet l y_M_flaws b_M_flaws 1 (some FieldType.int) (jrm 7) Θ [.inr (40, 0)] σ (fun r' σ' => r' = some (.inl (nI (jflw h))) ∧ jfm σ σ') := by
  refine jxMet.of (own := "HistoryJudgeModel") hI (by decide) rfl (Nat.le_of_ble_eq_true rfl) (fun Γ X => ?_)
  show jxW Γ Θ (fun r' σ' => r' = some (.inl (nI (jflw h))) ∧ jfm σ σ') 0 [some (.inr (40, 0))] [] σ
  refine j_aload_n X (q := 1) d_M_flaws_0 rfl rfl ?_
  refine j_iconst X (v := (nI 0)) (q := 2) d_M_flaws_1 (by decide +kernel) rfl ?_
  refine j_putI X (C := jR5) (T := jT5) (N := 18) (ci := 5) (j := 0) (q := 5) d_M_flaws_2 ju5 rfl rfl jt5 jt5_ok jn5 rfl (by decide) wl483 rfl (hC _ _ (by decide)) rfl rfl (ty := .int) rfl rfl rfl ?_
  refine j_aload_n X (q := 6) d_M_flaws_5 rfl rfl ?_
  refine j_callV X (n := 0) (C := jR5) (T := jT5) (N := 18) d_M_flaws_6 (c_M_allFlaws hI hC hw hv (jMs_keep hm jfm_c)) rfl rfl (hC _ _ (by decide)) wl622 wl623 wl30 wl42 wl624 (by decide +kernel) ⟨rfl, rfl⟩ (by decide) rfl rfl (Nat.le_of_ble_eq_true rfl) rfl (q := 9) rfl (fun r6 τ6 e6 => ?_)
  obtain ⟨rfl, hf⟩ := e6
  refine j_iret X d_M_flaws_9 ?_
  exact ⟨rfl, jfm_tr jfm_c (jfm_50 hf)⟩
set_option maxRecDepth 100000 in
set_option maxHeartbeats 4000000 in
theorem c_M_level {l : Launch} {Θ : jxT} (hI : jxI Θ) (hC : ∀ g r, r < jrwM g → Θ.2.2.2 g r) {h : jH} {v : jV} {σ : jxM} (hw : jHw h) (hv : jVc h v) (hm : jMs h v σ)  : jxMet l y_M_level b_M_level 2 (some FieldType.int) (jrm 7) Θ [.inr (40, 0)] σ (fun r' σ' => r' = some (.inl (nI (jlvl (jflw h)))) ∧ jfm σ σ') := by
  refine jxMet.of (own := "HistoryJudgeModel") hI (by decide) rfl (Nat.le_of_ble_eq_true rfl) (fun Γ X => ?_)
  show jxW Γ Θ (fun r' σ' => r' = some (.inl (nI (jlvl (jflw h)))) ∧ jfm σ σ') 0 [some (.inr (40, 0)), none] [] σ
  obtain ⟨l1, l2, l3, l4⟩ := jlv1 (jflw h) (jflw_lt h)
  refine j_aload_n X (q := 1) d_M_level_0 rfl rfl ?_
  refine j_iconst X (v := (nI 0)) (q := 2) d_M_level_1 (by decide +kernel) rfl ?_
  refine j_putI X (C := jR5) (T := jT5) (N := 18) (ci := 5) (j := 0) (q := 5) d_M_level_2 ju5 rfl rfl jt5 jt5_ok jn5 rfl (by decide) wl483 rfl (hC _ _ (by decide)) rfl rfl (ty := .int) rfl rfl rfl ?_
  refine j_aload_n X (q := 6) d_M_level_5 rfl rfl ?_
  refine j_callV X (n := 0) (C := jR5) (T := jT5) (N := 18) d_M_level_6 (c_M_allFlaws hI hC hw hv (jMs_keep hm jfm_c)) rfl rfl (hC _ _ (by decide)) wl622 wl623 wl30 wl42 wl624 (by decide +kernel) ⟨rfl, rfl⟩ (by decide) rfl rfl (Nat.le_of_ble_eq_true rfl) rfl (q := 9) rfl (fun r6 τ6 e6 => ?_)
  obtain ⟨rfl, hf⟩ := e6
  refine j_istore_n X (j := 1) (q := 10) d_M_level_9 rfl (Nat.le_of_ble_eq_true rfl) rfl ?_
  refine j_iload_n X (q := 11) d_M_level_10 rfl rfl ?_
  refine j_iconst X (v := (nI 1)) (q := 12) d_M_level_11 (by decide +kernel) rfl ?_
  refine j_iand X (q := 13) d_M_level_12 rfl ?_
  refine j_if_eq X (tgt := 20) (q := 16) d_M_level_13 (by decide) rfl (fun h13 => ?_) (fun h13 => ?_)
  · have _b13 := True.intro
    refine j_iload_n X (q := 21) d_M_level_20 rfl rfl ?_
    refine j_bipush X (v := (nI 14)) (q := 23) d_M_level_21 (by decide +kernel) rfl ?_
    refine j_iand X (q := 24) d_M_level_23 rfl ?_
    refine j_if_eq X (tgt := 31) (q := 27) d_M_level_24 (by decide) rfl (fun h24 => ?_) (fun h24 => ?_)
    · have _b24 := True.intro
      refine j_iload_n X (q := 32) d_M_level_31 rfl rfl ?_
      refine j_bipush X (v := (nI 16)) (q := 34) d_M_level_32 (by decide +kernel) rfl ?_
      refine j_iand X (q := 35) d_M_level_34 rfl ?_
      refine j_if_eq X (tgt := 42) (q := 38) d_M_level_35 (by decide) rfl (fun h35 => ?_) (fun h35 => ?_)
      · have _b35 := True.intro
        refine j_iload_n X (q := 43) d_M_level_42 rfl rfl ?_
        refine j_bipush X (v := (nI 32)) (q := 45) d_M_level_43 (by decide +kernel) rfl ?_
        refine j_iand X (q := 46) d_M_level_45 rfl ?_
        refine j_if_eq X (tgt := 53) (q := 49) d_M_level_46 (by decide) rfl (fun h46 => ?_) (fun h46 => ?_)
        · have _b46 := True.intro
          refine j_iconst X (v := (nI 4)) (q := 54) d_M_level_53 (by decide +kernel) rfl ?_
          refine j_iret X d_M_level_54 ?_
          have e0 := l1.mp h13
          have e1 := l2.mp h24
          have e2 := l3.mp h35
          have e3 := l4.mp h46
          exact ⟨by unfold jlvl; rw [e0, e1, e2, e3]; rfl, jfm_tr jfm_c (jfm_50 hf)⟩
        · have _b46 := True.intro
          refine j_iconst X (v := (nI 3)) (q := 50) d_M_level_49 (by decide +kernel) rfl ?_
          refine j_goto X (tgt := 54) d_M_level_50 (by decide) ?_
          refine j_iret X d_M_level_54 ?_
          have e0 := l1.mp h13
          have e1 := l2.mp h24
          have e2 := l3.mp h35
          have e3 : (jflw h).testBit 5 = true := (by cases e : (jflw h).testBit 5 with | true => rfl | false => exact absurd (l4.mpr e) h46)
          exact ⟨by unfold jlvl; rw [e0, e1, e2, e3]; rfl, jfm_tr jfm_c (jfm_50 hf)⟩
      · have _b35 := True.intro
        refine j_iconst X (v := (nI 2)) (q := 39) d_M_level_38 (by decide +kernel) rfl ?_
        refine j_goto X (tgt := 54) d_M_level_39 (by decide) ?_
        refine j_iret X d_M_level_54 ?_
        have e0 := l1.mp h13
        have e1 := l2.mp h24
        have e2 : (jflw h).testBit 4 = true := (by cases e : (jflw h).testBit 4 with | true => rfl | false => exact absurd (l3.mpr e) h35)
        exact ⟨by unfold jlvl; rw [e0, e1, e2]; rfl, jfm_tr jfm_c (jfm_50 hf)⟩
    · have _b24 := True.intro
      refine j_iconst X (v := (nI 1)) (q := 28) d_M_level_27 (by decide +kernel) rfl ?_
      refine j_goto X (tgt := 54) d_M_level_28 (by decide) ?_
      refine j_iret X d_M_level_54 ?_
      have e0 := l1.mp h13
      have e1 : ((jflw h).testBit 1 || (jflw h).testBit 2 || (jflw h).testBit 3) = true := (by cases e : ((jflw h).testBit 1 || (jflw h).testBit 2 || (jflw h).testBit 3) with | true => rfl | false => exact absurd (l2.mpr e) h24)
      exact ⟨by unfold jlvl; rw [e0, e1]; rfl, jfm_tr jfm_c (jfm_50 hf)⟩
  · have _b13 := True.intro
    refine j_iconst X (v := (nI 0)) (q := 17) d_M_level_16 (by decide +kernel) rfl ?_
    refine j_goto X (tgt := 54) d_M_level_17 (by decide) ?_
    refine j_iret X d_M_level_54 ?_
    have e0 : (jflw h).testBit 0 = true := (by cases e : (jflw h).testBit 0 with | true => rfl | false => exact absurd (l1.mpr e) h13)
    exact ⟨by unfold jlvl; rw [e0]; rfl, jfm_tr jfm_c (jfm_50 hf)⟩
