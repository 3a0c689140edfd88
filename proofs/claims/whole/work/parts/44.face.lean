/-! The class's own face: edges, flaws, level, cycles, serial orders, clear. -/
def jn (b : Bool) (c : Nat) : Nat := if b then c else 0
/-- what a question leaves as it was: the history and all that is not the class's -/
def jfr (σ σ' : jxM) : Prop := ∀ g, g ≤ 13 ∨ 40 ≤ g → σ' g = σ g
/-- a cycle of kind k -/
noncomputable def jP (h : jH) (k : Nat) : Nat → Nat → Bool := jpl k (fun a b => jd (jWW h a b)) (fun a b => jd (jWR h a b)) (fun a b => jd (jRW h a b))
noncomputable def jM (h : jH) : Nat → Nat → Bool := fun a b => jd (jRW h a b)
noncomputable def jCy (h : jH) (k : Nat) : Nat → (Nat → Nat) → Prop := jcy (decide (2 ≤ k)) (jP h k) (jM h)
noncomputable def jSc (h : jH) (k : Nat) : Nat → (Nat → Nat) → Prop := jsc (decide (2 ≤ k)) (jP h k) (jM h)
def jHasC (h : jH) (k : Nat) : Prop := ∃ n r, 2 ≤ n ∧ n ≤ 8 ∧ jSc h k n r
theorem jWW_c {h : jH} (hw : jHw h) {a b : Nat} (k : jWW h a b) : a ≠ b ∧ hyS h a = 2 ∧ hyS h b = 2 := by
  obtain ⟨x, hx, i, h1, h2, h3, h4, h5⟩ := k
  exact ⟨h5, by rw [← h3]; exact (jHw_od hw hx (by omega)).2.2.1, by rw [← h4]; exact (jHw_od hw hx h2).2.2.1⟩
theorem jWR_c {h : jH} {a b : Nat} (k : jWR h a b) : a ≠ b ∧ hyS h a = 2 ∧ hyS h b = 2 := by
  obtain ⟨r, hr, hc, v, h1, h2, rfl, rfl, h3⟩ := k
  exact ⟨h3, h2, hc⟩
theorem jRW_c {h : jH} (hw : jHw h) {a b : Nat} (k : jRW h a b) : a ≠ b ∧ hyS h a = 2 ∧ hyS h b = 2 := by
  obtain ⟨r, hr, hc, w, h1, rfl, rfl, h3⟩ := k
  refine ⟨h3, hc, ?_⟩
  rcases h1 with ⟨q, -⟩ | ⟨i, g1, -, g3⟩
  · cases q
  · cases g3; exact (jHw_od hw (jHw_ri hw hr) g1).2.2.1
theorem jP_iff {h : jH} {k a b : Nat} : jP h k a b = true ↔ jWW h a b ∨ (1 ≤ k ∧ jWR h a b) ∨ (3 ≤ k ∧ jRW h a b) := by
  unfold jP jpl
  rw [Bool.or_eq_true, Bool.or_eq_true, Bool.and_eq_true, Bool.and_eq_true, jd_iff, jd_iff, jd_iff, decide_eq_true_eq, decide_eq_true_eq, or_assoc]
theorem jM_iff {h : jH} {a b : Nat} : jM h a b = true ↔ jRW h a b := jd_iff
theorem jP_rr {h : jH} (hw : jHw h) (k t : Nat) : jP h k t t = false := Bool.eq_false_iff.mpr (fun q => by
  rcases jP_iff.mp q with z | z | z
  · exact (jWW_c hw z).1 rfl
  · exact (jWR_c z.2).1 rfl
  · exact (jRW_c hw z.2).1 rfl)
theorem jM_rr {h : jH} (hw : jHw h) (t : Nat) : jM h t t = false := Bool.eq_false_iff.mpr (fun q => (jRW_c hw (jM_iff.mp q)).1 rfl)
/-- the graph is drawn -/
def jQ (h : jH) (σ τ : jxM) : Prop := jHs h τ ∧ jGs 21 (jWW h) τ ∧ jGs 22 (jWR h) τ ∧ jGs 23 (jRW h) τ ∧ jfr σ τ
theorem jQ_keep {h : jH} {σ τ τ' : jxM} (q : jQ h σ τ) (e : ∀ g', g' < 25 ∨ 29 < g' → τ' g' = τ g') : jQ h σ τ' := ⟨jHs_keep q.1 (fun g hg => e g (by omega)), jGs_keep q.2.1 (e 21 (by decide)), jGs_keep q.2.2.1 (e 22 (by decide)), jGs_keep q.2.2.2.1 (e 23 (by decide)), fun g hg => by rw [e g (by omega), q.2.2.2.2 g hg]⟩
theorem jQ_draw {h : jH} {σ τ : jxM} (hs : jHs h σ) (h1 : jGs 21 (jWW h) τ) (h2 : jGs 22 (jWR h) τ) (h3 : jGs 23 (jRW h) τ) (hf : ∀ g', g' < 21 ∨ 23 < g' → τ g' = σ g') : jQ h σ τ := ⟨jHs_keep hs (fun g hg => hf g (by omega)), h1, h2, h3, fun g hg => hf g (by omega)⟩
theorem jHasC_of {h : jH} (hw : jHw h) {k len : Nat} {σ' : jxM} (h0 : len = 0 → ∀ n r, 2 ≤ n → n ≤ 8 → ¬ jCy h k n r) (h1 : len ≠ 0 → ∃ row : Nat → Nat, (∀ i, i < len → σ' 29 0 i = nI (row i)) ∧ jmn (jCy h k) len row) : jd (jHasC h k) = decide (len ≠ 0) := by
  by_cases e : len = 0
  · rw [decide_eq_false (fun q => q e)]
    exact jd_no.mpr (fun ⟨n, r, a, b, c⟩ => h0 e n r a b c.1)
  · rw [decide_eq_true e]
    obtain ⟨row, -, hm⟩ := h1 e
    exact jd_iff.mpr ⟨len, row, hm.1, hm.2.1, jcy_simple (jP_rr hw k) (jM_rr hw) hm⟩
set_option maxRecDepth 100000 in
set_option maxHeartbeats 4000000 in
theorem c_J_edges {l : Launch} {Θ : jxT} (hI : jxI Θ) (hC : ∀ g r, r < jrwJ g → Θ.2.2.2 g r) {h : jH} {σ : jxM} (hw : jHw h) (hs : jHs h σ) (x y : Int32) : jxMet l y_J_edges b_J_edges 3 (some FieldType.int) (jrm 5) Θ [.inr (0, 0), .inl x, .inl y] σ (fun r' σ' => r' = some (.inl (if jin x 8 = true ∧ jin y 8 = true then nI (jn (jd (jWW h x.toNatClampNeg y.toNatClampNeg)) 1 + jn (jd (jWR h x.toNatClampNeg y.toNatClampNeg)) 2 + jn (jd (jRW h x.toNatClampNeg y.toNatClampNeg)) 4) else nI 0)) ∧ jfr σ σ') := by
  refine jxMet.of (own := "HistoryJudge") hI (by decide) rfl (Nat.le_of_ble_eq_true rfl) (fun Γ X => ?_)
  show jxW Γ Θ (fun r' σ' => r' = some (.inl (if jin x 8 = true ∧ jin y 8 = true then nI (jn (jd (jWW h x.toNatClampNeg y.toNatClampNeg)) 1 + jn (jd (jWR h x.toNatClampNeg y.toNatClampNeg)) 2 + jn (jd (jRW h x.toNatClampNeg y.toNatClampNeg)) 4) else nI 0)) ∧ jfr σ σ') 0 [some (.inr (0, 0)), some (.inl x), some (.inl y)] [] σ
  refine j_iload_n X (q := 1) d_J_edges_0 rfl rfl ?_
  refine j_callS X (n := 1) d_J_edges_1 (c_J_isTransaction hI x σ) wl178 wl179 wl36 wl180 (by decide +kernel) ⟨rfl, rfl⟩ (by decide) rfl rfl (Nat.le_of_ble_eq_true rfl) rfl (q := 4) rfl (fun r1 τ1 e1 => ?_)
  obtain ⟨rfl, rfl⟩ := e1
  refine j_bif_eq X (tgt := 14) (q := 7) d_J_edges_4 (by decide) rfl (fun h4 => ?_) (fun h4 => ?_)
  · have _b4 := True.intro
    refine j_iconst X (v := (nI 0)) (q := 15) d_J_edges_14 (by decide +kernel) rfl ?_
    refine j_iret X d_J_edges_15 ?_
    exact ⟨by rw [if_neg (fun q => by rw [h4] at q; cases q.1)], fun _ _ => rfl⟩
  · have _b4 := True.intro
    refine j_iload_n X (q := 8) d_J_edges_7 rfl rfl ?_
    refine j_callS X (n := 1) d_J_edges_8 (c_J_isTransaction hI y σ) wl178 wl179 wl36 wl180 (by decide +kernel) ⟨rfl, rfl⟩ (by decide) rfl rfl (Nat.le_of_ble_eq_true rfl) rfl (q := 11) rfl (fun r8 τ8 e8 => ?_)
    obtain ⟨rfl, rfl⟩ := e8
    refine j_bif_ne X (tgt := 16) (q := 14) d_J_edges_11 (by decide) rfl (fun h11 => ?_) (fun h11 => ?_)
    · have _b11 := True.intro
      obtain ⟨a, ha, ea⟩ := jin_of h4 (by decide)
      obtain ⟨b, hb, eb⟩ := jin_of h11 (by decide)
      have ca : x.toNatClampNeg = a := by rw [ea]; exact nI_clamp (by omega)
      have cb : y.toNatClampNeg = b := by rw [eb]; exact nI_clamp (by omega)
      refine j_aload_n X (q := 17) d_J_edges_16 rfl rfl ?_
      refine j_getR X (C := jR4) (T := jT4) (N := 4) (ci := 4) (j := 1) (q := 20) d_J_edges_17 ju4 rfl rfl rfl (by decide) wl167 rfl (hC _ _ (by decide)) rfl ?_
      refine j_aload_n X (q := 21) d_J_edges_20 rfl rfl ?_
      refine j_getR X (C := jR4) (T := jT4) (N := 4) (ci := 4) (j := 0) (q := 24) d_J_edges_21 ju4 rfl rfl rfl (by decide) wl166 rfl (hC _ _ (by decide)) rfl ?_
      refine j_callV X (n := 1) (C := jR1) (T := jT1) (N := 3) d_J_edges_24 (c_G_draw hI hC hw hs) rfl rfl (hC _ _ (by decide)) wl196 wl197 wl198 wl39 wl199 (by decide +kernel) ⟨rfl, rfl⟩ (by decide) rfl rfl (Nat.le_of_ble_eq_true rfl) rfl (q := 27) rfl (fun r24 τ24 e24 => ?_)
      obtain ⟨rfl, g1, g2, g3, gf⟩ := e24
      have hq := jQ_draw hs g1 g2 g3 gf
      refine j_aload_n X (q := 28) d_J_edges_27 rfl rfl ?_
      refine j_getR X (C := jR4) (T := jT4) (N := 4) (ci := 4) (j := 1) (q := 31) d_J_edges_28 ju4 rfl rfl rfl (by decide) wl167 rfl (hC _ _ (by decide)) rfl ?_
      refine j_getR X (C := jR1) (T := jT1) (N := 3) (ci := 1) (j := 0) (q := 34) d_J_edges_31 ju1 rfl rfl rfl (by decide) wl123 rfl (hC _ _ (by decide)) rfl ?_
      refine j_iload_n X (q := 35) d_J_edges_34 rfl rfl ?_
      refine j_iald X (j := a) (q := 36) d_J_edges_35 rfl (by decide) ea ha (hC _ _ (by decide)) rfl (g1 a ha) ?_
      refine j_iload_n X (q := 37) d_J_edges_36 rfl rfl ?_
      refine jxW.cast rfl (show _ = [.inl (nI b), .inl (bI (fun b => jd (jWW h a b)))] by rw [eb]; rfl) rfl ?_
      refine j_callS X (n := 2) d_J_edges_37 (c_J_has hI (fun b => jd (jWW h a b)) hb τ24) wl223 wl224 wl36 wl225 (by decide +kernel) ⟨rfl, rfl⟩ (by decide) rfl rfl (Nat.le_of_ble_eq_true rfl) rfl (q := 40) rfl (fun r37 τ37 e37 => ?_)
      obtain ⟨rfl, rfl⟩ := e37
      refine j_bif_eq X (tgt := 47) (q := 43) d_J_edges_40 (by decide) rfl (fun h40 => ?_) (fun h40 => ?_)
      · have _b40 := True.intro
        refine j_iconst X (v := (nI 0)) (q := 48) d_J_edges_47 (by decide +kernel) rfl ?_
        refine j_aload_n X (q := 49) d_J_edges_48 rfl rfl ?_
        refine j_getR X (C := jR4) (T := jT4) (N := 4) (ci := 4) (j := 1) (q := 52) d_J_edges_49 ju4 rfl rfl rfl (by decide) wl167 rfl (hC _ _ (by decide)) rfl ?_
        refine j_getR X (C := jR1) (T := jT1) (N := 3) (ci := 1) (j := 1) (q := 55) d_J_edges_52 ju1 rfl rfl rfl (by decide) wl126 rfl (hC _ _ (by decide)) rfl ?_
        refine j_iload_n X (q := 56) d_J_edges_55 rfl rfl ?_
        refine j_iald X (j := a) (q := 57) d_J_edges_56 rfl (by decide) ea ha (hC _ _ (by decide)) rfl (g2 a ha) ?_
        refine j_iload_n X (q := 58) d_J_edges_57 rfl rfl ?_
        refine jxW.cast rfl (show _ = .inl (nI b) :: .inl (bI (fun b => jd (jWR h a b))) :: _ by rw [eb]) rfl ?_
        refine j_callS X (n := 2) d_J_edges_58 (c_J_has hI (fun b => jd (jWR h a b)) hb τ24) wl223 wl224 wl36 wl225 (by decide +kernel) ⟨rfl, rfl⟩ (by decide) rfl rfl (Nat.le_of_ble_eq_true rfl) rfl (q := 61) rfl (fun r58 τ58 e58 => ?_)
        obtain ⟨rfl, rfl⟩ := e58
        refine j_bif_eq X (tgt := 68) (q := 64) d_J_edges_61 (by decide) rfl (fun h61 => ?_) (fun h61 => ?_)
        · have _b61 := True.intro
          refine j_iconst X (v := (nI 0)) (q := 69) d_J_edges_68 (by decide +kernel) rfl ?_
          refine j_iadd X (q := 70) d_J_edges_69 rfl ?_
          refine j_aload_n X (q := 71) d_J_edges_70 rfl rfl ?_
          refine j_getR X (C := jR4) (T := jT4) (N := 4) (ci := 4) (j := 1) (q := 74) d_J_edges_71 ju4 rfl rfl rfl (by decide) wl167 rfl (hC _ _ (by decide)) rfl ?_
          refine j_getR X (C := jR1) (T := jT1) (N := 3) (ci := 1) (j := 2) (q := 77) d_J_edges_74 ju1 rfl rfl rfl (by decide) wl129 rfl (hC _ _ (by decide)) rfl ?_
          refine j_iload_n X (q := 78) d_J_edges_77 rfl rfl ?_
          refine j_iald X (j := a) (q := 79) d_J_edges_78 rfl (by decide) ea ha (hC _ _ (by decide)) rfl (g3 a ha) ?_
          refine j_iload_n X (q := 80) d_J_edges_79 rfl rfl ?_
          refine jxW.cast rfl (show _ = .inl (nI b) :: .inl (bI (fun b => jd (jRW h a b))) :: _ by rw [eb]) rfl ?_
          refine j_callS X (n := 2) d_J_edges_80 (c_J_has hI (fun b => jd (jRW h a b)) hb τ24) wl223 wl224 wl36 wl225 (by decide +kernel) ⟨rfl, rfl⟩ (by decide) rfl rfl (Nat.le_of_ble_eq_true rfl) rfl (q := 83) rfl (fun r80 τ80 e80 => ?_)
          obtain ⟨rfl, rfl⟩ := e80
          refine j_bif_eq X (tgt := 90) (q := 86) d_J_edges_83 (by decide) rfl (fun h83 => ?_) (fun h83 => ?_)
          · have _b83 := True.intro
            refine j_iconst X (v := (nI 0)) (q := 91) d_J_edges_90 (by decide +kernel) rfl ?_
            refine j_iadd X (q := 92) d_J_edges_91 rfl ?_
            refine j_iret X d_J_edges_92 ?_
            refine ⟨?_, hq.2.2.2.2⟩
            rw [if_pos ⟨h4, h11⟩, ca, cb, h40, h61, h83]
            simp only [nI_add, jn]
            rfl
          · have _b83 := True.intro
            refine j_iconst X (v := (nI 4)) (q := 87) d_J_edges_86 (by decide +kernel) rfl ?_
            refine j_goto X (tgt := 91) d_J_edges_87 (by decide) ?_
            refine j_iadd X (q := 92) d_J_edges_91 rfl ?_
            refine j_iret X d_J_edges_92 ?_
            refine ⟨?_, hq.2.2.2.2⟩
            rw [if_pos ⟨h4, h11⟩, ca, cb, h40, h61, h83]
            simp only [nI_add, jn]
            rfl
        · have _b61 := True.intro
          refine j_iconst X (v := (nI 2)) (q := 65) d_J_edges_64 (by decide +kernel) rfl ?_
          refine j_goto X (tgt := 69) d_J_edges_65 (by decide) ?_
          refine j_iadd X (q := 70) d_J_edges_69 rfl ?_
          refine j_aload_n X (q := 71) d_J_edges_70 rfl rfl ?_
          refine j_getR X (C := jR4) (T := jT4) (N := 4) (ci := 4) (j := 1) (q := 74) d_J_edges_71 ju4 rfl rfl rfl (by decide) wl167 rfl (hC _ _ (by decide)) rfl ?_
          refine j_getR X (C := jR1) (T := jT1) (N := 3) (ci := 1) (j := 2) (q := 77) d_J_edges_74 ju1 rfl rfl rfl (by decide) wl129 rfl (hC _ _ (by decide)) rfl ?_
          refine j_iload_n X (q := 78) d_J_edges_77 rfl rfl ?_
          refine j_iald X (j := a) (q := 79) d_J_edges_78 rfl (by decide) ea ha (hC _ _ (by decide)) rfl (g3 a ha) ?_
          refine j_iload_n X (q := 80) d_J_edges_79 rfl rfl ?_
          refine jxW.cast rfl (show _ = .inl (nI b) :: .inl (bI (fun b => jd (jRW h a b))) :: _ by rw [eb]) rfl ?_
          refine j_callS X (n := 2) d_J_edges_80 (c_J_has hI (fun b => jd (jRW h a b)) hb τ24) wl223 wl224 wl36 wl225 (by decide +kernel) ⟨rfl, rfl⟩ (by decide) rfl rfl (Nat.le_of_ble_eq_true rfl) rfl (q := 83) rfl (fun r80 τ80 e80 => ?_)
          obtain ⟨rfl, rfl⟩ := e80
          refine j_bif_eq X (tgt := 90) (q := 86) d_J_edges_83 (by decide) rfl (fun h83 => ?_) (fun h83 => ?_)
          · have _b83 := True.intro
            refine j_iconst X (v := (nI 0)) (q := 91) d_J_edges_90 (by decide +kernel) rfl ?_
            refine j_iadd X (q := 92) d_J_edges_91 rfl ?_
            refine j_iret X d_J_edges_92 ?_
            refine ⟨?_, hq.2.2.2.2⟩
            rw [if_pos ⟨h4, h11⟩, ca, cb, h40, h61, h83]
            simp only [nI_add, jn]
            rfl
          · have _b83 := True.intro
            refine j_iconst X (v := (nI 4)) (q := 87) d_J_edges_86 (by decide +kernel) rfl ?_
            refine j_goto X (tgt := 91) d_J_edges_87 (by decide) ?_
            refine j_iadd X (q := 92) d_J_edges_91 rfl ?_
            refine j_iret X d_J_edges_92 ?_
            refine ⟨?_, hq.2.2.2.2⟩
            rw [if_pos ⟨h4, h11⟩, ca, cb, h40, h61, h83]
            simp only [nI_add, jn]
            rfl
      · have _b40 := True.intro
        refine j_iconst X (v := (nI 1)) (q := 44) d_J_edges_43 (by decide +kernel) rfl ?_
        refine j_goto X (tgt := 48) d_J_edges_44 (by decide) ?_
        refine j_aload_n X (q := 49) d_J_edges_48 rfl rfl ?_
        refine j_getR X (C := jR4) (T := jT4) (N := 4) (ci := 4) (j := 1) (q := 52) d_J_edges_49 ju4 rfl rfl rfl (by decide) wl167 rfl (hC _ _ (by decide)) rfl ?_
        refine j_getR X (C := jR1) (T := jT1) (N := 3) (ci := 1) (j := 1) (q := 55) d_J_edges_52 ju1 rfl rfl rfl (by decide) wl126 rfl (hC _ _ (by decide)) rfl ?_
        refine j_iload_n X (q := 56) d_J_edges_55 rfl rfl ?_
        refine j_iald X (j := a) (q := 57) d_J_edges_56 rfl (by decide) ea ha (hC _ _ (by decide)) rfl (g2 a ha) ?_
        refine j_iload_n X (q := 58) d_J_edges_57 rfl rfl ?_
        refine jxW.cast rfl (show _ = .inl (nI b) :: .inl (bI (fun b => jd (jWR h a b))) :: _ by rw [eb]) rfl ?_
        refine j_callS X (n := 2) d_J_edges_58 (c_J_has hI (fun b => jd (jWR h a b)) hb τ24) wl223 wl224 wl36 wl225 (by decide +kernel) ⟨rfl, rfl⟩ (by decide) rfl rfl (Nat.le_of_ble_eq_true rfl) rfl (q := 61) rfl (fun r58 τ58 e58 => ?_)
        obtain ⟨rfl, rfl⟩ := e58
        refine j_bif_eq X (tgt := 68) (q := 64) d_J_edges_61 (by decide) rfl (fun h61 => ?_) (fun h61 => ?_)
        · have _b61 := True.intro
          refine j_iconst X (v := (nI 0)) (q := 69) d_J_edges_68 (by decide +kernel) rfl ?_
          refine j_iadd X (q := 70) d_J_edges_69 rfl ?_
          refine j_aload_n X (q := 71) d_J_edges_70 rfl rfl ?_
          refine j_getR X (C := jR4) (T := jT4) (N := 4) (ci := 4) (j := 1) (q := 74) d_J_edges_71 ju4 rfl rfl rfl (by decide) wl167 rfl (hC _ _ (by decide)) rfl ?_
          refine j_getR X (C := jR1) (T := jT1) (N := 3) (ci := 1) (j := 2) (q := 77) d_J_edges_74 ju1 rfl rfl rfl (by decide) wl129 rfl (hC _ _ (by decide)) rfl ?_
          refine j_iload_n X (q := 78) d_J_edges_77 rfl rfl ?_
          refine j_iald X (j := a) (q := 79) d_J_edges_78 rfl (by decide) ea ha (hC _ _ (by decide)) rfl (g3 a ha) ?_
          refine j_iload_n X (q := 80) d_J_edges_79 rfl rfl ?_
          refine jxW.cast rfl (show _ = .inl (nI b) :: .inl (bI (fun b => jd (jRW h a b))) :: _ by rw [eb]) rfl ?_
          refine j_callS X (n := 2) d_J_edges_80 (c_J_has hI (fun b => jd (jRW h a b)) hb τ24) wl223 wl224 wl36 wl225 (by decide +kernel) ⟨rfl, rfl⟩ (by decide) rfl rfl (Nat.le_of_ble_eq_true rfl) rfl (q := 83) rfl (fun r80 τ80 e80 => ?_)
          obtain ⟨rfl, rfl⟩ := e80
          refine j_bif_eq X (tgt := 90) (q := 86) d_J_edges_83 (by decide) rfl (fun h83 => ?_) (fun h83 => ?_)
          · have _b83 := True.intro
            refine j_iconst X (v := (nI 0)) (q := 91) d_J_edges_90 (by decide +kernel) rfl ?_
            refine j_iadd X (q := 92) d_J_edges_91 rfl ?_
            refine j_iret X d_J_edges_92 ?_
            refine ⟨?_, hq.2.2.2.2⟩
            rw [if_pos ⟨h4, h11⟩, ca, cb, h40, h61, h83]
            simp only [nI_add, jn]
            rfl
          · have _b83 := True.intro
            refine j_iconst X (v := (nI 4)) (q := 87) d_J_edges_86 (by decide +kernel) rfl ?_
            refine j_goto X (tgt := 91) d_J_edges_87 (by decide) ?_
            refine j_iadd X (q := 92) d_J_edges_91 rfl ?_
            refine j_iret X d_J_edges_92 ?_
            refine ⟨?_, hq.2.2.2.2⟩
            rw [if_pos ⟨h4, h11⟩, ca, cb, h40, h61, h83]
            simp only [nI_add, jn]
            rfl
        · have _b61 := True.intro
          refine j_iconst X (v := (nI 2)) (q := 65) d_J_edges_64 (by decide +kernel) rfl ?_
          refine j_goto X (tgt := 69) d_J_edges_65 (by decide) ?_
          refine j_iadd X (q := 70) d_J_edges_69 rfl ?_
          refine j_aload_n X (q := 71) d_J_edges_70 rfl rfl ?_
          refine j_getR X (C := jR4) (T := jT4) (N := 4) (ci := 4) (j := 1) (q := 74) d_J_edges_71 ju4 rfl rfl rfl (by decide) wl167 rfl (hC _ _ (by decide)) rfl ?_
          refine j_getR X (C := jR1) (T := jT1) (N := 3) (ci := 1) (j := 2) (q := 77) d_J_edges_74 ju1 rfl rfl rfl (by decide) wl129 rfl (hC _ _ (by decide)) rfl ?_
          refine j_iload_n X (q := 78) d_J_edges_77 rfl rfl ?_
          refine j_iald X (j := a) (q := 79) d_J_edges_78 rfl (by decide) ea ha (hC _ _ (by decide)) rfl (g3 a ha) ?_
          refine j_iload_n X (q := 80) d_J_edges_79 rfl rfl ?_
          refine jxW.cast rfl (show _ = .inl (nI b) :: .inl (bI (fun b => jd (jRW h a b))) :: _ by rw [eb]) rfl ?_
          refine j_callS X (n := 2) d_J_edges_80 (c_J_has hI (fun b => jd (jRW h a b)) hb τ24) wl223 wl224 wl36 wl225 (by decide +kernel) ⟨rfl, rfl⟩ (by decide) rfl rfl (Nat.le_of_ble_eq_true rfl) rfl (q := 83) rfl (fun r80 τ80 e80 => ?_)
          obtain ⟨rfl, rfl⟩ := e80
          refine j_bif_eq X (tgt := 90) (q := 86) d_J_edges_83 (by decide) rfl (fun h83 => ?_) (fun h83 => ?_)
          · have _b83 := True.intro
            refine j_iconst X (v := (nI 0)) (q := 91) d_J_edges_90 (by decide +kernel) rfl ?_
            refine j_iadd X (q := 92) d_J_edges_91 rfl ?_
            refine j_iret X d_J_edges_92 ?_
            refine ⟨?_, hq.2.2.2.2⟩
            rw [if_pos ⟨h4, h11⟩, ca, cb, h40, h61, h83]
            simp only [nI_add, jn]
            rfl
          · have _b83 := True.intro
            refine j_iconst X (v := (nI 4)) (q := 87) d_J_edges_86 (by decide +kernel) rfl ?_
            refine j_goto X (tgt := 91) d_J_edges_87 (by decide) ?_
            refine j_iadd X (q := 92) d_J_edges_91 rfl ?_
            refine j_iret X d_J_edges_92 ?_
            refine ⟨?_, hq.2.2.2.2⟩
            rw [if_pos ⟨h4, h11⟩, ca, cb, h40, h61, h83]
            simp only [nI_add, jn]
            rfl
    · have _b11 := True.intro
      refine j_iconst X (v := (nI 0)) (q := 15) d_J_edges_14 (by decide +kernel) rfl ?_
      refine j_iret X d_J_edges_15 ?_
      exact ⟨by rw [if_neg (fun q => by rw [h11] at q; cases q.2)], fun _ _ => rfl⟩
noncomputable def jflw (h : jH) : Nat := jn (jd (jHasC h 0)) 1 + jn (jd (∃ r, r < hyR h ∧ jab h r)) 2 + jn (jd (∃ r, r < hyR h ∧ jun h r)) 4 + jn (jd (jHasC h 1)) 8 + jn (jd (jHasC h 2)) 16 + jn (jd (jHasC h 3)) 32
set_option maxRecDepth 100000 in
set_option maxHeartbeats 4000000 in
theorem c_J_flaws {l : Launch} {Θ : jxT} (hI : jxI Θ) (hC : ∀ g r, r < jrwJ g → Θ.2.2.2 g r) {h : jH} {σ : jxM} (hw : jHw h) (hs : jHs h σ)  : jxMet l y_J_flaws b_J_flaws 1 (some FieldType.int) (jrm 6) Θ [.inr (0, 0)] σ (fun r' σ' => r' = some (.inl (nI (jflw h))) ∧ jfr σ σ') := by
  refine jxMet.of (own := "HistoryJudge") hI (by decide) rfl (Nat.le_of_ble_eq_true rfl) (fun Γ X => ?_)
  show jxW Γ Θ (fun r' σ' => r' = some (.inl (nI (jflw h))) ∧ jfr σ σ') 0 [some (.inr (0, 0))] [] σ
  have J128 : ∀ τ, jQ h σ τ → jxW Γ Θ (fun r' σ' => r' = some (.inl (nI (jflw h))) ∧ jfr σ σ') 128 [some (.inr (0, 0))] [.inl (nI (jn (jd (jHasC h 3)) 32)), .inl (nI (jn (jd (jHasC h 0)) 1 + jn (jd (∃ r, r < hyR h ∧ jab h r)) 2 + jn (jd (∃ r, r < hyR h ∧ jun h r)) 4 + jn (jd (jHasC h 1)) 8 + jn (jd (jHasC h 2)) 16))] τ := by
    intro τ hq
    refine j_iadd X (q := 129) d_J_flaws_128 rfl ?_
    refine j_iret X d_J_flaws_129 ?_
    refine ⟨?_, hq.2.2.2.2⟩
    rw [nI_add]
    rfl
  have J106 : ∀ τ, jQ h σ τ → jxW Γ Θ (fun r' σ' => r' = some (.inl (nI (jflw h))) ∧ jfr σ σ') 106 [some (.inr (0, 0))] [.inl (nI (jn (jd (jHasC h 2)) 16)), .inl (nI (jn (jd (jHasC h 0)) 1 + jn (jd (∃ r, r < hyR h ∧ jab h r)) 2 + jn (jd (∃ r, r < hyR h ∧ jun h r)) 4 + jn (jd (jHasC h 1)) 8))] τ := by
    intro τ hq
    refine j_iadd X (q := 107) d_J_flaws_106 rfl ?_
    rw [nI_add]
    refine j_aload_n X (q := 108) d_J_flaws_107 rfl rfl ?_
    refine j_getR X (C := jR4) (T := jT4) (N := 4) (ci := 4) (j := 2) (q := 111) d_J_flaws_108 ju4 rfl rfl rfl (by decide) wl168 rfl (hC _ _ (by decide)) rfl ?_
    refine j_aload_n X (q := 112) d_J_flaws_111 rfl rfl ?_
    refine j_getR X (C := jR4) (T := jT4) (N := 4) (ci := 4) (j := 1) (q := 115) d_J_flaws_112 ju4 rfl rfl rfl (by decide) wl167 rfl (hC _ _ (by decide)) rfl ?_
    refine j_iconst X (v := (nI 3)) (q := 116) d_J_flaws_115 (by decide +kernel) rfl ?_
    refine j_callV X (n := 2) (C := jR0) (T := jT0) (N := 5) d_J_flaws_116 (c_C_find hI hC hq.2.1 hq.2.2.1 hq.2.2.2.1 (k := 3) (by decide)) rfl rfl (hC _ _ (by decide)) wl231 wl232 wl233 wl40 wl234 (by decide +kernel) ⟨rfl, rfl⟩ (by decide) rfl rfl (Nat.le_of_ble_eq_true rfl) rfl (q := 119) rfl (fun r116 τ116 e116 => ?_)
    obtain ⟨⟨len, hl8, rfl, hl0, hl1⟩, hfr⟩ := e116
    have hb := jHasC_of (h := h) hw (k := 3) hl0 hl1
    have hq2 := jQ_keep hq hfr
    refine j_nif_eq X (tgt := 127) (q := 122) d_J_flaws_119 (by decide) rfl (by omega) (fun h119 => ?_) (fun h119 => ?_)
    · have _b119 := True.intro
      refine j_iconst X (v := (nI 0)) (q := 128) d_J_flaws_127 (by decide +kernel) rfl ?_
      refine jxW.cast rfl (show _ = [.inl (nI (jn (jd (jHasC h 3)) 32)), .inl (nI (jn (jd (jHasC h 0)) 1 + jn (jd (∃ r, r < hyR h ∧ jab h r)) 2 + jn (jd (∃ r, r < hyR h ∧ jun h r)) 4 + jn (jd (jHasC h 1)) 8 + jn (jd (jHasC h 2)) 16))] from congrArg (fun z => Sum.inl z :: _) (by rw [hb, decide_eq_false (fun q => q h119)]; rfl)) rfl ?_
      exact J128 _ hq2
    · have _b119 := True.intro
      refine j_bipush X (v := (nI 32)) (q := 124) d_J_flaws_122 (by decide +kernel) rfl ?_
      refine j_goto X (tgt := 128) d_J_flaws_124 (by decide) ?_
      refine jxW.cast rfl (show _ = [.inl (nI (jn (jd (jHasC h 3)) 32)), .inl (nI (jn (jd (jHasC h 0)) 1 + jn (jd (∃ r, r < hyR h ∧ jab h r)) 2 + jn (jd (∃ r, r < hyR h ∧ jun h r)) 4 + jn (jd (jHasC h 1)) 8 + jn (jd (jHasC h 2)) 16))] from congrArg (fun z => Sum.inl z :: _) (by rw [hb, decide_eq_true h119]; rfl)) rfl ?_
      exact J128 _ hq2
  have J84 : ∀ τ, jQ h σ τ → jxW Γ Θ (fun r' σ' => r' = some (.inl (nI (jflw h))) ∧ jfr σ σ') 84 [some (.inr (0, 0))] [.inl (nI (jn (jd (jHasC h 1)) 8)), .inl (nI (jn (jd (jHasC h 0)) 1 + jn (jd (∃ r, r < hyR h ∧ jab h r)) 2 + jn (jd (∃ r, r < hyR h ∧ jun h r)) 4))] τ := by
    intro τ hq
    refine j_iadd X (q := 85) d_J_flaws_84 rfl ?_
    rw [nI_add]
    refine j_aload_n X (q := 86) d_J_flaws_85 rfl rfl ?_
    refine j_getR X (C := jR4) (T := jT4) (N := 4) (ci := 4) (j := 2) (q := 89) d_J_flaws_86 ju4 rfl rfl rfl (by decide) wl168 rfl (hC _ _ (by decide)) rfl ?_
    refine j_aload_n X (q := 90) d_J_flaws_89 rfl rfl ?_
    refine j_getR X (C := jR4) (T := jT4) (N := 4) (ci := 4) (j := 1) (q := 93) d_J_flaws_90 ju4 rfl rfl rfl (by decide) wl167 rfl (hC _ _ (by decide)) rfl ?_
    refine j_iconst X (v := (nI 2)) (q := 94) d_J_flaws_93 (by decide +kernel) rfl ?_
    refine j_callV X (n := 2) (C := jR0) (T := jT0) (N := 5) d_J_flaws_94 (c_C_find hI hC hq.2.1 hq.2.2.1 hq.2.2.2.1 (k := 2) (by decide)) rfl rfl (hC _ _ (by decide)) wl231 wl232 wl233 wl40 wl234 (by decide +kernel) ⟨rfl, rfl⟩ (by decide) rfl rfl (Nat.le_of_ble_eq_true rfl) rfl (q := 97) rfl (fun r94 τ94 e94 => ?_)
    obtain ⟨⟨len, hl8, rfl, hl0, hl1⟩, hfr⟩ := e94
    have hb := jHasC_of (h := h) hw (k := 2) hl0 hl1
    have hq2 := jQ_keep hq hfr
    refine j_nif_eq X (tgt := 105) (q := 100) d_J_flaws_97 (by decide) rfl (by omega) (fun h97 => ?_) (fun h97 => ?_)
    · have _b97 := True.intro
      refine j_iconst X (v := (nI 0)) (q := 106) d_J_flaws_105 (by decide +kernel) rfl ?_
      refine jxW.cast rfl (show _ = [.inl (nI (jn (jd (jHasC h 2)) 16)), .inl (nI (jn (jd (jHasC h 0)) 1 + jn (jd (∃ r, r < hyR h ∧ jab h r)) 2 + jn (jd (∃ r, r < hyR h ∧ jun h r)) 4 + jn (jd (jHasC h 1)) 8))] from congrArg (fun z => Sum.inl z :: _) (by rw [hb, decide_eq_false (fun q => q h97)]; rfl)) rfl ?_
      exact J106 _ hq2
    · have _b97 := True.intro
      refine j_bipush X (v := (nI 16)) (q := 102) d_J_flaws_100 (by decide +kernel) rfl ?_
      refine j_goto X (tgt := 106) d_J_flaws_102 (by decide) ?_
      refine jxW.cast rfl (show _ = [.inl (nI (jn (jd (jHasC h 2)) 16)), .inl (nI (jn (jd (jHasC h 0)) 1 + jn (jd (∃ r, r < hyR h ∧ jab h r)) 2 + jn (jd (∃ r, r < hyR h ∧ jun h r)) 4 + jn (jd (jHasC h 1)) 8))] from congrArg (fun z => Sum.inl z :: _) (by rw [hb, decide_eq_true h97]; rfl)) rfl ?_
      exact J106 _ hq2
  have J62 : ∀ τ, jQ h σ τ → jxW Γ Θ (fun r' σ' => r' = some (.inl (nI (jflw h))) ∧ jfr σ σ') 62 [some (.inr (0, 0))] [.inl (nI (jn (jd (∃ r, r < hyR h ∧ jun h r)) 4)), .inl (nI (jn (jd (jHasC h 0)) 1 + jn (jd (∃ r, r < hyR h ∧ jab h r)) 2))] τ := by
    intro τ hq
    refine j_iadd X (q := 63) d_J_flaws_62 rfl ?_
    rw [nI_add]
    refine j_aload_n X (q := 64) d_J_flaws_63 rfl rfl ?_
    refine j_getR X (C := jR4) (T := jT4) (N := 4) (ci := 4) (j := 2) (q := 67) d_J_flaws_64 ju4 rfl rfl rfl (by decide) wl168 rfl (hC _ _ (by decide)) rfl ?_
    refine j_aload_n X (q := 68) d_J_flaws_67 rfl rfl ?_
    refine j_getR X (C := jR4) (T := jT4) (N := 4) (ci := 4) (j := 1) (q := 71) d_J_flaws_68 ju4 rfl rfl rfl (by decide) wl167 rfl (hC _ _ (by decide)) rfl ?_
    refine j_iconst X (v := (nI 1)) (q := 72) d_J_flaws_71 (by decide +kernel) rfl ?_
    refine j_callV X (n := 2) (C := jR0) (T := jT0) (N := 5) d_J_flaws_72 (c_C_find hI hC hq.2.1 hq.2.2.1 hq.2.2.2.1 (k := 1) (by decide)) rfl rfl (hC _ _ (by decide)) wl231 wl232 wl233 wl40 wl234 (by decide +kernel) ⟨rfl, rfl⟩ (by decide) rfl rfl (Nat.le_of_ble_eq_true rfl) rfl (q := 75) rfl (fun r72 τ72 e72 => ?_)
    obtain ⟨⟨len, hl8, rfl, hl0, hl1⟩, hfr⟩ := e72
    have hb := jHasC_of (h := h) hw (k := 1) hl0 hl1
    have hq2 := jQ_keep hq hfr
    refine j_nif_eq X (tgt := 83) (q := 78) d_J_flaws_75 (by decide) rfl (by omega) (fun h75 => ?_) (fun h75 => ?_)
    · have _b75 := True.intro
      refine j_iconst X (v := (nI 0)) (q := 84) d_J_flaws_83 (by decide +kernel) rfl ?_
      refine jxW.cast rfl (show _ = [.inl (nI (jn (jd (jHasC h 1)) 8)), .inl (nI (jn (jd (jHasC h 0)) 1 + jn (jd (∃ r, r < hyR h ∧ jab h r)) 2 + jn (jd (∃ r, r < hyR h ∧ jun h r)) 4))] from congrArg (fun z => Sum.inl z :: _) (by rw [hb, decide_eq_false (fun q => q h75)]; rfl)) rfl ?_
      exact J84 _ hq2
    · have _b75 := True.intro
      refine j_bipush X (v := (nI 8)) (q := 80) d_J_flaws_78 (by decide +kernel) rfl ?_
      refine j_goto X (tgt := 84) d_J_flaws_80 (by decide) ?_
      refine jxW.cast rfl (show _ = [.inl (nI (jn (jd (jHasC h 1)) 8)), .inl (nI (jn (jd (jHasC h 0)) 1 + jn (jd (∃ r, r < hyR h ∧ jab h r)) 2 + jn (jd (∃ r, r < hyR h ∧ jun h r)) 4))] from congrArg (fun z => Sum.inl z :: _) (by rw [hb, decide_eq_true h75]; rfl)) rfl ?_
      exact J84 _ hq2
  have J46 : ∀ τ, jQ h σ τ → jxW Γ Θ (fun r' σ' => r' = some (.inl (nI (jflw h))) ∧ jfr σ σ') 46 [some (.inr (0, 0))] [.inl (nI (jn (jd (∃ r, r < hyR h ∧ jab h r)) 2)), .inl (nI (jn (jd (jHasC h 0)) 1))] τ := by
    intro τ hq
    refine j_iadd X (q := 47) d_J_flaws_46 rfl ?_
    rw [nI_add]
    refine j_aload_n X (q := 48) d_J_flaws_47 rfl rfl ?_
    refine j_getR X (C := jR4) (T := jT4) (N := 4) (ci := 4) (j := 0) (q := 51) d_J_flaws_48 ju4 rfl rfl rfl (by decide) wl166 rfl (hC _ _ (by decide)) rfl ?_
    refine j_callV X (n := 0) (C := jR2) (T := jT2) (N := 12) d_J_flaws_51 (c_H_hasUnfinishedRead hI (fun g r q => hC g r (jHJ q)) hw hq.1) rfl rfl (hC _ _ (by decide)) wl260 wl261 wl262 wl37 wl263 (by decide +kernel) ⟨rfl, rfl⟩ (by decide) rfl rfl (Nat.le_of_ble_eq_true rfl) rfl (q := 54) rfl (fun r51 τ51 e51 => ?_)
    obtain ⟨rfl, rfl⟩ := e51
    refine j_bif_eq X (tgt := 61) (q := 57) d_J_flaws_54 (by decide) rfl (fun h54 => ?_) (fun h54 => ?_)
    · have _b54 := True.intro
      refine j_iconst X (v := (nI 0)) (q := 62) d_J_flaws_61 (by decide +kernel) rfl ?_
      refine jxW.cast rfl (show _ = [.inl (nI (jn (jd (∃ r, r < hyR h ∧ jun h r)) 4)), .inl (nI (jn (jd (jHasC h 0)) 1 + jn (jd (∃ r, r < hyR h ∧ jab h r)) 2))] from congrArg (fun z => Sum.inl z :: _) (by rw [h54]; rfl)) rfl ?_
      exact J62 _ hq
    · have _b54 := True.intro
      refine j_iconst X (v := (nI 4)) (q := 58) d_J_flaws_57 (by decide +kernel) rfl ?_
      refine j_goto X (tgt := 62) d_J_flaws_58 (by decide) ?_
      refine jxW.cast rfl (show _ = [.inl (nI (jn (jd (∃ r, r < hyR h ∧ jun h r)) 4)), .inl (nI (jn (jd (jHasC h 0)) 1 + jn (jd (∃ r, r < hyR h ∧ jab h r)) 2))] from congrArg (fun z => Sum.inl z :: _) (by rw [h54]; rfl)) rfl ?_
      exact J62 _ hq
  have J31 : ∀ τ, jQ h σ τ → jxW Γ Θ (fun r' σ' => r' = some (.inl (nI (jflw h))) ∧ jfr σ σ') 31 [some (.inr (0, 0))] [.inl (nI (jn (jd (jHasC h 0)) 1))] τ := by
    intro τ hq
    refine j_aload_n X (q := 32) d_J_flaws_31 rfl rfl ?_
    refine j_getR X (C := jR4) (T := jT4) (N := 4) (ci := 4) (j := 0) (q := 35) d_J_flaws_32 ju4 rfl rfl rfl (by decide) wl166 rfl (hC _ _ (by decide)) rfl ?_
    refine j_callV X (n := 0) (C := jR2) (T := jT2) (N := 12) d_J_flaws_35 (c_H_hasAbortedRead hI (fun g r q => hC g r (jHJ q)) hw hq.1) rfl rfl (hC _ _ (by decide)) wl252 wl253 wl254 wl37 wl255 (by decide +kernel) ⟨rfl, rfl⟩ (by decide) rfl rfl (Nat.le_of_ble_eq_true rfl) rfl (q := 38) rfl (fun r35 τ35 e35 => ?_)
    obtain ⟨rfl, rfl⟩ := e35
    refine j_bif_eq X (tgt := 45) (q := 41) d_J_flaws_38 (by decide) rfl (fun h38 => ?_) (fun h38 => ?_)
    · have _b38 := True.intro
      refine j_iconst X (v := (nI 0)) (q := 46) d_J_flaws_45 (by decide +kernel) rfl ?_
      refine jxW.cast rfl (show _ = [.inl (nI (jn (jd (∃ r, r < hyR h ∧ jab h r)) 2)), .inl (nI (jn (jd (jHasC h 0)) 1))] from congrArg (fun z => Sum.inl z :: _) (by rw [h38]; rfl)) rfl ?_
      exact J46 _ hq
    · have _b38 := True.intro
      refine j_iconst X (v := (nI 2)) (q := 42) d_J_flaws_41 (by decide +kernel) rfl ?_
      refine j_goto X (tgt := 46) d_J_flaws_42 (by decide) ?_
      refine jxW.cast rfl (show _ = [.inl (nI (jn (jd (∃ r, r < hyR h ∧ jab h r)) 2)), .inl (nI (jn (jd (jHasC h 0)) 1))] from congrArg (fun z => Sum.inl z :: _) (by rw [h38]; rfl)) rfl ?_
      exact J46 _ hq
  refine j_aload_n X (q := 1) d_J_flaws_0 rfl rfl ?_
  refine j_getR X (C := jR4) (T := jT4) (N := 4) (ci := 4) (j := 1) (q := 4) d_J_flaws_1 ju4 rfl rfl rfl (by decide) wl167 rfl (hC _ _ (by decide)) rfl ?_
  refine j_aload_n X (q := 5) d_J_flaws_4 rfl rfl ?_
  refine j_getR X (C := jR4) (T := jT4) (N := 4) (ci := 4) (j := 0) (q := 8) d_J_flaws_5 ju4 rfl rfl rfl (by decide) wl166 rfl (hC _ _ (by decide)) rfl ?_
  refine j_callV X (n := 1) (C := jR1) (T := jT1) (N := 3) d_J_flaws_8 (c_G_draw hI hC hw hs) rfl rfl (hC _ _ (by decide)) wl196 wl197 wl198 wl39 wl199 (by decide +kernel) ⟨rfl, rfl⟩ (by decide) rfl rfl (Nat.le_of_ble_eq_true rfl) rfl (q := 11) rfl (fun r8 τ8 e8 => ?_)
  obtain ⟨rfl, g1, g2, g3, gf⟩ := e8
  have hq := jQ_draw hs g1 g2 g3 gf
  refine j_aload_n X (q := 12) d_J_flaws_11 rfl rfl ?_
  refine j_getR X (C := jR4) (T := jT4) (N := 4) (ci := 4) (j := 2) (q := 15) d_J_flaws_12 ju4 rfl rfl rfl (by decide) wl168 rfl (hC _ _ (by decide)) rfl ?_
  refine j_aload_n X (q := 16) d_J_flaws_15 rfl rfl ?_
  refine j_getR X (C := jR4) (T := jT4) (N := 4) (ci := 4) (j := 1) (q := 19) d_J_flaws_16 ju4 rfl rfl rfl (by decide) wl167 rfl (hC _ _ (by decide)) rfl ?_
  refine j_iconst X (v := (nI 0)) (q := 20) d_J_flaws_19 (by decide +kernel) rfl ?_
  refine j_callV X (n := 2) (C := jR0) (T := jT0) (N := 5) d_J_flaws_20 (c_C_find hI hC hq.2.1 hq.2.2.1 hq.2.2.2.1 (k := 0) (by decide)) rfl rfl (hC _ _ (by decide)) wl231 wl232 wl233 wl40 wl234 (by decide +kernel) ⟨rfl, rfl⟩ (by decide) rfl rfl (Nat.le_of_ble_eq_true rfl) rfl (q := 23) rfl (fun r20 τ20 e20 => ?_)
  obtain ⟨⟨len, hl8, rfl, hl0, hl1⟩, hfr⟩ := e20
  have hb := jHasC_of (h := h) hw (k := 0) hl0 hl1
  have hq2 := jQ_keep hq hfr
  refine j_nif_eq X (tgt := 30) (q := 26) d_J_flaws_23 (by decide) rfl (by omega) (fun h23 => ?_) (fun h23 => ?_)
  · have _b23 := True.intro
    refine j_iconst X (v := (nI 0)) (q := 31) d_J_flaws_30 (by decide +kernel) rfl ?_
    refine jxW.cast rfl (show _ = [.inl (nI (jn (jd (jHasC h 0)) 1))] from congrArg (fun z => Sum.inl z :: _) (by rw [hb, decide_eq_false (fun q => q h23)]; rfl)) rfl ?_
    exact J31 _ hq2
  · have _b23 := True.intro
    refine j_iconst X (v := (nI 1)) (q := 27) d_J_flaws_26 (by decide +kernel) rfl ?_
    refine j_goto X (tgt := 31) d_J_flaws_27 (by decide) ?_
    refine jxW.cast rfl (show _ = [.inl (nI (jn (jd (jHasC h 0)) 1))] from congrArg (fun z => Sum.inl z :: _) (by rw [hb, decide_eq_true h23]; rfl)) rfl ?_
    exact J31 _ hq2
def jlvl (f : Nat) : Nat := if f.testBit 0 then 0 else if f.testBit 1 || f.testBit 2 || f.testBit 3 then 1 else if f.testBit 4 then 2 else if f.testBit 5 then 3 else 4
theorem jflw_lt (h : jH) : jflw h < 64 := by
  unfold jflw jn
  repeat' split
  all_goals omega
theorem jlv1 : ∀ f, f < 64 → ((nI f &&& nI 1 = 0 ↔ f.testBit 0 = false) ∧ (nI f &&& nI 14 = 0 ↔ (f.testBit 1 || f.testBit 2 || f.testBit 3) = false) ∧ (nI f &&& nI 16 = 0 ↔ f.testBit 4 = false) ∧ (nI f &&& nI 32 = 0 ↔ f.testBit 5 = false)) := by decide +kernel
set_option maxRecDepth 100000 in
set_option maxHeartbeats 4000000 in
theorem c_J_level {l : Launch} {Θ : jxT} (hI : jxI Θ) (hC : ∀ g r, r < jrwJ g → Θ.2.2.2 g r) {h : jH} {σ : jxM} (hw : jHw h) (hs : jHs h σ)  : jxMet l y_J_level b_J_level 2 (some FieldType.int) (jrm 7) Θ [.inr (0, 0)] σ (fun r' σ' => r' = some (.inl (nI (jlvl (jflw h)))) ∧ jfr σ σ') := by
  refine jxMet.of (own := "HistoryJudge") hI (by decide) rfl (Nat.le_of_ble_eq_true rfl) (fun Γ X => ?_)
  show jxW Γ Θ (fun r' σ' => r' = some (.inl (nI (jlvl (jflw h)))) ∧ jfr σ σ') 0 [some (.inr (0, 0)), none] [] σ
  obtain ⟨l1, l2, l3, l4⟩ := jlv1 (jflw h) (jflw_lt h)
  refine j_aload_n X (q := 1) d_J_level_0 rfl rfl ?_
  refine j_callV X (n := 0) (C := jR4) (T := jT4) (N := 4) d_J_level_1 (c_J_flaws hI hC hw hs) rfl rfl (hC _ _ (by decide)) wl275 wl228 wl229 wl36 wl230 (by decide +kernel) ⟨rfl, rfl⟩ (by decide) rfl rfl (Nat.le_of_ble_eq_true rfl) rfl (q := 4) rfl (fun r1 τ1 e1 => ?_)
  obtain ⟨rfl, hfr⟩ := e1
  refine j_istore_n X (j := 1) (q := 5) d_J_level_4 rfl (Nat.le_of_ble_eq_true rfl) rfl ?_
  refine j_iload_n X (q := 6) d_J_level_5 rfl rfl ?_
  refine j_iconst X (v := (nI 1)) (q := 7) d_J_level_6 (by decide +kernel) rfl ?_
  refine j_iand X (q := 8) d_J_level_7 rfl ?_
  refine j_if_eq X (tgt := 13) (q := 11) d_J_level_8 (by decide) rfl (fun h8 => ?_) (fun h8 => ?_)
  · have _b8 := True.intro
    refine j_iload_n X (q := 14) d_J_level_13 rfl rfl ?_
    refine j_bipush X (v := (nI 14)) (q := 16) d_J_level_14 (by decide +kernel) rfl ?_
    refine j_iand X (q := 17) d_J_level_16 rfl ?_
    refine j_if_eq X (tgt := 22) (q := 20) d_J_level_17 (by decide) rfl (fun h17 => ?_) (fun h17 => ?_)
    · have _b17 := True.intro
      refine j_iload_n X (q := 23) d_J_level_22 rfl rfl ?_
      refine j_bipush X (v := (nI 16)) (q := 25) d_J_level_23 (by decide +kernel) rfl ?_
      refine j_iand X (q := 26) d_J_level_25 rfl ?_
      refine j_if_eq X (tgt := 31) (q := 29) d_J_level_26 (by decide) rfl (fun h26 => ?_) (fun h26 => ?_)
      · have _b26 := True.intro
        refine j_iload_n X (q := 32) d_J_level_31 rfl rfl ?_
        refine j_bipush X (v := (nI 32)) (q := 34) d_J_level_32 (by decide +kernel) rfl ?_
        refine j_iand X (q := 35) d_J_level_34 rfl ?_
        refine j_if_eq X (tgt := 42) (q := 38) d_J_level_35 (by decide) rfl (fun h35 => ?_) (fun h35 => ?_)
        · have _b35 := True.intro
          refine j_iconst X (v := (nI 4)) (q := 43) d_J_level_42 (by decide +kernel) rfl ?_
          refine j_iret X d_J_level_43 ?_
          have e0 := l1.mp h8
          have e1 := l2.mp h17
          have e2 := l3.mp h26
          have e := l4.mp h35
          exact ⟨by unfold jlvl; rw [e0, e1, e2, e]; rfl, hfr⟩
        · have _b35 := True.intro
          refine j_iconst X (v := (nI 3)) (q := 39) d_J_level_38 (by decide +kernel) rfl ?_
          refine j_goto X (tgt := 43) d_J_level_39 (by decide) ?_
          refine j_iret X d_J_level_43 ?_
          have e0 := l1.mp h8
          have e1 := l2.mp h17
          have e2 := l3.mp h26
          have e := (show (jflw h).testBit 5 = true from (by cases e : (jflw h).testBit 5 with | true => rfl | false => exact absurd (l4.mpr e) h35))
          exact ⟨by unfold jlvl; rw [e0, e1, e2, e]; rfl, hfr⟩
      · have _b26 := True.intro
        refine j_iconst X (v := (nI 2)) (q := 30) d_J_level_29 (by decide +kernel) rfl ?_
        refine j_iret X d_J_level_30 ?_
        have e0 := l1.mp h8
        have e1 := l2.mp h17
        have e := (show (jflw h).testBit 4 = true from (by cases e : (jflw h).testBit 4 with | true => rfl | false => exact absurd (l3.mpr e) h26))
        exact ⟨by unfold jlvl; rw [e0, e1, e]; rfl, hfr⟩
    · have _b17 := True.intro
      refine j_iconst X (v := (nI 1)) (q := 21) d_J_level_20 (by decide +kernel) rfl ?_
      refine j_iret X d_J_level_21 ?_
      have e0 := l1.mp h8
      have e := (show ((jflw h).testBit 1 || (jflw h).testBit 2 || (jflw h).testBit 3) = true from (by cases e : ((jflw h).testBit 1 || (jflw h).testBit 2 || (jflw h).testBit 3) with | true => rfl | false => exact absurd (l2.mpr e) h17))
      exact ⟨by unfold jlvl; rw [e0, e]; rfl, hfr⟩
  · have _b8 := True.intro
    refine j_iconst X (v := (nI 0)) (q := 12) d_J_level_11 (by decide +kernel) rfl ?_
    refine j_iret X d_J_level_12 ?_
    have e := (show (jflw h).testBit 0 = true from (by cases e : (jflw h).testBit 0 with | true => rfl | false => exact absurd (l1.mpr e) h8))
    exact ⟨by unfold jlvl; rw [e]; rfl, hfr⟩
set_option maxRecDepth 100000 in
set_option maxHeartbeats 4000000 in
theorem c_J_cycle {l : Launch} {Θ : jxT} (hI : jxI Θ) (hC : ∀ g r, r < jrwJ g → Θ.2.2.2 g r) {h : jH} {σ : jxM} (hw : jHw h) (hs : jHs h σ) (x : Int32) : jxMet l y_J_cycle b_J_cycle 2 (some FieldType.int) (jrm 6) Θ [.inr (0, 0), .inl x] σ (fun r' σ' => (∃ len, len ≤ 8 ∧ r' = some (.inl (nI len)) ∧ (jin x 4 = false → len = 0) ∧ ∀ k, k < 4 → x = nI k → (len = 0 → ∀ n r, 2 ≤ n → n ≤ 8 → ¬ jCy h k n r) ∧ (len ≠ 0 → ∃ row : Nat → Nat, (∀ i, i < len → σ' 29 0 i = nI (row i)) ∧ jmn (jCy h k) len row)) ∧ jfr σ σ') := by
  refine jxMet.of (own := "HistoryJudge") hI (by decide) rfl (Nat.le_of_ble_eq_true rfl) (fun Γ X => ?_)
  show jxW Γ Θ (fun r' σ' => (∃ len, len ≤ 8 ∧ r' = some (.inl (nI len)) ∧ (jin x 4 = false → len = 0) ∧ ∀ k, k < 4 → x = nI k → (len = 0 → ∀ n r, 2 ≤ n → n ≤ 8 → ¬ jCy h k n r) ∧ (len ≠ 0 → ∃ row : Nat → Nat, (∀ i, i < len → σ' 29 0 i = nI (row i)) ∧ jmn (jCy h k) len row)) ∧ jfr σ σ') 0 [some (.inr (0, 0)), some (.inl x)] [] σ
  refine j_iload_n X (q := 1) d_J_cycle_0 rfl rfl ?_
  refine j_if_lt X (tgt := 9) (q := 4) d_J_cycle_1 (by decide) rfl (fun h1 => ?_) (fun h1 => ?_)
  · have _b1 := True.intro
    have hin : jin x 4 = false := jin_neg h1
    refine j_iconst X (v := (nI 0)) (q := 10) d_J_cycle_9 (by decide +kernel) rfl ?_
    refine j_iret X d_J_cycle_10 ?_
    exact ⟨⟨0, by omega, rfl, fun _ => rfl, fun k hk e => by subst e; rw [jin_nI (by omega), decide_eq_true hk] at hin; cases hin⟩, fun _ _ => rfl⟩
  · have _b1 := True.intro
    refine j_iload_n X (q := 5) d_J_cycle_4 rfl rfl ?_
    refine j_iconst X (v := (nI 4)) (q := 6) d_J_cycle_5 (by decide +kernel) rfl ?_
    refine j_icmp_lt X (tgt := 11) (q := 9) d_J_cycle_6 (by decide) rfl (fun h6 => ?_) (fun h6 => ?_)
    · have _b6 := True.intro
      have hin : jin x 4 = true := jin_yes (by omega) h1 (fun z => by
        have h1 := Int32.lt_iff_toInt_lt.mp h6
        have h2 := Int32.le_iff_toInt_le.mp z
        omega)
      obtain ⟨k, hk, ek⟩ := jin_of hin (by omega)
      refine j_aload_n X (q := 12) d_J_cycle_11 rfl rfl ?_
      refine j_getR X (C := jR4) (T := jT4) (N := 4) (ci := 4) (j := 1) (q := 15) d_J_cycle_12 ju4 rfl rfl rfl (by decide) wl167 rfl (hC _ _ (by decide)) rfl ?_
      refine j_aload_n X (q := 16) d_J_cycle_15 rfl rfl ?_
      refine j_getR X (C := jR4) (T := jT4) (N := 4) (ci := 4) (j := 0) (q := 19) d_J_cycle_16 ju4 rfl rfl rfl (by decide) wl166 rfl (hC _ _ (by decide)) rfl ?_
      refine j_callV X (n := 1) (C := jR1) (T := jT1) (N := 3) d_J_cycle_19 (c_G_draw hI hC hw hs) rfl rfl (hC _ _ (by decide)) wl196 wl197 wl198 wl39 wl199 (by decide +kernel) ⟨rfl, rfl⟩ (by decide) rfl rfl (Nat.le_of_ble_eq_true rfl) rfl (q := 22) rfl (fun r19 τ19 e19 => ?_)
      obtain ⟨rfl, g1, g2, g3, gf⟩ := e19
      have hq := jQ_draw hs g1 g2 g3 gf
      refine j_aload_n X (q := 23) d_J_cycle_22 rfl rfl ?_
      refine j_getR X (C := jR4) (T := jT4) (N := 4) (ci := 4) (j := 2) (q := 26) d_J_cycle_23 ju4 rfl rfl rfl (by decide) wl168 rfl (hC _ _ (by decide)) rfl ?_
      refine j_aload_n X (q := 27) d_J_cycle_26 rfl rfl ?_
      refine j_getR X (C := jR4) (T := jT4) (N := 4) (ci := 4) (j := 1) (q := 30) d_J_cycle_27 ju4 rfl rfl rfl (by decide) wl167 rfl (hC _ _ (by decide)) rfl ?_
      refine j_iload_n X (q := 31) d_J_cycle_30 rfl rfl ?_
      refine jxW.cast rfl (show _ = [.inl (nI k), .inr (20, 0), .inr (24, 0)] by rw [ek]; rfl) rfl ?_
      refine j_callV X (n := 2) (C := jR0) (T := jT0) (N := 5) d_J_cycle_31 (c_C_find hI hC hq.2.1 hq.2.2.1 hq.2.2.2.1 hk) rfl rfl (hC _ _ (by decide)) wl231 wl232 wl233 wl40 wl234 (by decide +kernel) ⟨rfl, rfl⟩ (by decide) rfl rfl (Nat.le_of_ble_eq_true rfl) rfl (q := 34) rfl (fun r31 τ31 e31 => ?_)
      obtain ⟨⟨len, hl8, rfl, hl0, hl1⟩, hfr⟩ := e31
      have hq2 := jQ_keep hq hfr
      refine j_iret X d_J_cycle_34 ?_
      refine ⟨⟨len, hl8, rfl, fun q => (by rw [hin] at q; cases q), fun k' hk' e => ?_⟩, hq2.2.2.2.2⟩
      have ek2 : k = k' := (nI_eq (by omega) (by omega)).mp (ek.symm.trans e)
      subst ek2
      exact ⟨hl0, hl1⟩
    · have _b6 := True.intro
      have hin : jin x 4 = false := jin_big (by omega) (Int32.le_iff_toInt_le.mpr (by
        have : ¬ x.toInt < (nI 4).toInt := fun z => h6 (Int32.lt_iff_toInt_lt.mpr z)
        omega))
      refine j_iconst X (v := (nI 0)) (q := 10) d_J_cycle_9 (by decide +kernel) rfl ?_
      refine j_iret X d_J_cycle_10 ?_
      exact ⟨⟨0, by omega, rfl, fun _ => rfl, fun k hk e => by subst e; rw [jin_nI (by omega), decide_eq_true hk] at hin; cases hin⟩, fun _ _ => rfl⟩
theorem jmn_uniq {C : Nat → (Nat → Nat) → Prop} {n n' : Nat} {r r' : Nat → Nat} (h : jmn C n r) (h' : jmn C n' r') : n = n' ∧ ∀ i, i < n → r i = r' i := by
  have e : n = n' := by
    rcases Nat.lt_trichotomy n n' with q | q | q
    · exact absurd h.2.2.1 (h'.2.2.2.1 n r h.1 q)
    · exact q
    · exact absurd h'.2.2.1 (h.2.2.2.1 n' r' h'.1 q)
  subst e
  exact ⟨rfl, jlx_anti (h.2.2.2.2 r' h'.2.2.1) (h'.2.2.2.2 r h.2.2.1)⟩
set_option maxRecDepth 100000 in
set_option maxHeartbeats 4000000 in
theorem c_J_step {l : Launch} {Θ : jxT} (hI : jxI Θ) (hC : ∀ g r, r < jrwJ g → Θ.2.2.2 g r) {h : jH} {σ : jxM} (hw : jHw h) (hs : jHs h σ) (x i : Int32) : jxMet l y_J_step b_J_step 4 (some FieldType.int) (jrm 7) Θ [.inr (0, 0), .inl x, .inl i] σ (fun r' σ' => (∃ v, r' = some (.inl v) ∧ (jin x 4 = false → v = -1) ∧ ∀ k, k < 4 → x = nI k → ((∀ n r, 2 ≤ n → n ≤ 8 → ¬ jCy h k n r) ∨ ∃ len row, jmn (jCy h k) len row) ∧ ((∀ n r, 2 ≤ n → n ≤ 8 → ¬ jCy h k n r) → v = -1) ∧ ∀ len row, jmn (jCy h k) len row → (jin i len = false → v = -1) ∧ ∀ j, j < len → i = nI j → v = nI (row j)) ∧ jfr σ σ') := by
  refine jxMet.of (own := "HistoryJudge") hI (by decide) rfl (Nat.le_of_ble_eq_true rfl) (fun Γ X => ?_)
  show jxW Γ Θ (fun r' σ' => (∃ v, r' = some (.inl v) ∧ (jin x 4 = false → v = -1) ∧ ∀ k, k < 4 → x = nI k → ((∀ n r, 2 ≤ n → n ≤ 8 → ¬ jCy h k n r) ∨ ∃ len row, jmn (jCy h k) len row) ∧ ((∀ n r, 2 ≤ n → n ≤ 8 → ¬ jCy h k n r) → v = -1) ∧ ∀ len row, jmn (jCy h k) len row → (jin i len = false → v = -1) ∧ ∀ j, j < len → i = nI j → v = nI (row j)) ∧ jfr σ σ') 0 [some (.inr (0, 0)), some (.inl x), some (.inl i), none] [] σ
  refine j_aload_n X (q := 1) d_J_step_0 rfl rfl ?_
  refine j_iload_n X (q := 2) d_J_step_1 rfl rfl ?_
  refine j_callV X (n := 1) (C := jR4) (T := jT4) (N := 4) d_J_step_2 (c_J_cycle hI hC hw hs x) rfl rfl (hC _ _ (by decide)) wl284 wl277 wl278 wl36 wl279 (by decide +kernel) ⟨rfl, rfl⟩ (by decide) rfl rfl (Nat.le_of_ble_eq_true rfl) rfl (q := 5) rfl (fun r2 τ2 e2 => ?_)
  obtain ⟨⟨len, hl8, rfl, hl1, hc⟩, hfr⟩ := e2
  refine j_istore_n X (j := 3) (q := 6) d_J_step_5 rfl (Nat.le_of_ble_eq_true rfl) rfl ?_
  refine j_iload_n X (q := 7) d_J_step_6 rfl rfl ?_
  refine j_if_lt X (tgt := 27) (q := 10) d_J_step_7 (by decide) rfl (fun h7 => ?_) (fun h7 => ?_)
  · have _b7 := True.intro
    have hin : jin i len = false := jin_neg h7
    refine j_iconst X (v := (-1)) (q := 28) d_J_step_27 (by decide +kernel) rfl ?_
    refine j_iret X d_J_step_28 ?_
    refine ⟨⟨-1, rfl, fun _ => rfl, fun k hk e => ⟨(if z : len = 0 then Or.inl ((hc k hk e).1 z) else Or.inr (by obtain ⟨row, -, hm2⟩ := (hc k hk e).2 z; exact ⟨len, row, hm2⟩)), fun _ => rfl, fun len' row' hm => ⟨fun _ => rfl, fun j hj ej => ?_⟩⟩⟩, hfr⟩
    obtain ⟨c0, c1⟩ := hc k hk e
    by_cases z : len = 0
    · exact absurd hm.2.2.1 (c0 z len' row' hm.1 hm.2.1)
    · obtain ⟨row, hr, hm2⟩ := c1 z
      have := (jmn_uniq hm2 hm).1
      subst this
      rw [ej, jin_nI (by omega), decide_eq_true hj] at hin
      cases hin
  · have _b7 := True.intro
    refine j_iload_n X (q := 11) d_J_step_10 rfl rfl ?_
    refine j_iload_n X (q := 12) d_J_step_11 rfl rfl ?_
    refine j_icmp_ge X (tgt := 27) (q := 15) d_J_step_12 (by decide) rfl (fun h12 => ?_) (fun h12 => ?_)
    · have _b12 := True.intro
      have hin : jin i len = false := jin_big (by omega) h12
      refine j_iconst X (v := (-1)) (q := 28) d_J_step_27 (by decide +kernel) rfl ?_
      refine j_iret X d_J_step_28 ?_
      refine ⟨⟨-1, rfl, fun _ => rfl, fun k hk e => ⟨(if z : len = 0 then Or.inl ((hc k hk e).1 z) else Or.inr (by obtain ⟨row, -, hm2⟩ := (hc k hk e).2 z; exact ⟨len, row, hm2⟩)), fun _ => rfl, fun len' row' hm => ⟨fun _ => rfl, fun j hj ej => ?_⟩⟩⟩, hfr⟩
      obtain ⟨c0, c1⟩ := hc k hk e
      by_cases z : len = 0
      · exact absurd hm.2.2.1 (c0 z len' row' hm.1 hm.2.1)
      · obtain ⟨row, hr, hm2⟩ := c1 z
        have := (jmn_uniq hm2 hm).1
        subst this
        rw [ej, jin_nI (by omega), decide_eq_true hj] at hin
        cases hin
    · have _b12 := True.intro
      have hin : jin i len = true := jin_yes (by omega) h7 h12
      obtain ⟨j, hj, ej⟩ := jin_of hin (by omega)
      refine j_aload_n X (q := 16) d_J_step_15 rfl rfl ?_
      refine j_getR X (C := jR4) (T := jT4) (N := 4) (ci := 4) (j := 2) (q := 19) d_J_step_16 ju4 rfl rfl rfl (by decide) wl168 rfl (hC _ _ (by decide)) rfl ?_
      refine j_getR X (C := jR0) (T := jT0) (N := 5) (ci := 0) (j := 4) (q := 22) d_J_step_19 ju0 rfl rfl rfl (by decide) wl143 rfl (hC _ _ (by decide)) rfl ?_
      refine j_iload_n X (q := 23) d_J_step_22 rfl rfl ?_
      refine j_iald X (j := j) (q := 24) d_J_step_23 rfl (by decide) ej (by omega) (hC _ _ (by decide)) rfl rfl ?_
      refine j_goto X (tgt := 28) d_J_step_24 (by decide) ?_
      refine j_iret X d_J_step_28 ?_
      refine ⟨⟨_, rfl, fun q => ?_, fun k hk e => ⟨(if z : len = 0 then Or.inl ((hc k hk e).1 z) else Or.inr (by obtain ⟨row, -, hm2⟩ := (hc k hk e).2 z; exact ⟨len, row, hm2⟩)), fun hno => ?_, fun len' row' hm => ⟨fun hno => ?_, fun j' hj' ej' => ?_⟩⟩⟩, hfr⟩
      · have := hl1 q; omega
      · obtain ⟨c0, c1⟩ := hc k hk e
        obtain ⟨row, hr, hm2⟩ := c1 (by omega)
        exact absurd hm2.2.2.1 (hno len row hm2.1 hm2.2.1)
      · obtain ⟨c0, c1⟩ := hc k hk e
        obtain ⟨row, hr, hm2⟩ := c1 (by omega)
        have := (jmn_uniq hm2 hm).1
        subst this
        rw [hin] at hno; cases hno
      · obtain ⟨c0, c1⟩ := hc k hk e
        obtain ⟨row, hr, hm2⟩ := c1 (by omega)
        obtain ⟨e1, e2⟩ := jmn_uniq hm2 hm
        have ejj : j = j' := (nI_eq (by omega) (by omega)).mp (ej.symm.trans ej')
        subst ejj
        rw [hr j hj, e2 j hj]
set_option maxRecDepth 100000 in
set_option maxHeartbeats 4000000 in
theorem c_J_serial {l : Launch} {Θ : jxT} (hI : jxI Θ) (hC : ∀ g r, r < jrwJ g → Θ.2.2.2 g r) {h : jH} {σ : jxM} (hw : jHw h) (hs : jHs h σ)  : jxMet l y_J_serial b_J_serial 1 (some FieldType.boolean) (jrm 7) Θ [.inr (0, 0)] σ (fun r' σ' => r' = some (.inl (jB (jd (jsdR h (hyR h)) && jd (jce (jcmt h) (jmfc (jbfR h (hyR h)) (jrbR h (hyR h))) (fun _ => false))))) ∧ jfr σ σ') := by
  refine jxMet.of (own := "HistoryJudge") hI (by decide) rfl (Nat.le_of_ble_eq_true rfl) (fun Γ X => ?_)
  show jxW Γ Θ (fun r' σ' => r' = some (.inl (jB (jd (jsdR h (hyR h)) && jd (jce (jcmt h) (jmfc (jbfR h (hyR h)) (jrbR h (hyR h))) (fun _ => false))))) ∧ jfr σ σ') 0 [some (.inr (0, 0))] [] σ
  refine j_aload_n X (q := 1) d_J_serial_0 rfl rfl ?_
  refine j_getR X (C := jR4) (T := jT4) (N := 4) (ci := 4) (j := 3) (q := 4) d_J_serial_1 ju4 rfl rfl rfl (by decide) wl169 rfl (hC _ _ (by decide)) rfl ?_
  refine j_aload_n X (q := 5) d_J_serial_4 rfl rfl ?_
  refine j_getR X (C := jR4) (T := jT4) (N := 4) (ci := 4) (j := 0) (q := 8) d_J_serial_5 ju4 rfl rfl rfl (by decide) wl166 rfl (hC _ _ (by decide)) rfl ?_
  refine j_callV X (n := 1) (C := jR3) (T := jT3) (N := 5) d_J_serial_8 (c_S_explore hI hC hw hs) rfl rfl (hC _ _ (by decide)) wl289 wl290 wl291 wl41 wl292 (by decide +kernel) ⟨rfl, rfl⟩ (by decide) rfl rfl (Nat.le_of_ble_eq_true rfl) rfl (q := 11) rfl (fun r8 τ8 e8 => ?_)
  obtain ⟨rfl, hz, hx, hf⟩ := e8
  have hfr : jfr σ τ8 := fun g hg => hf g (by omega)
  refine j_aload_n X (q := 12) d_J_serial_11 rfl rfl ?_
  refine j_getR X (C := jR4) (T := jT4) (N := 4) (ci := 4) (j := 3) (q := 15) d_J_serial_12 ju4 rfl rfl rfl (by decide) wl169 rfl (hC _ _ (by decide)) rfl ?_
  refine j_callV X (n := 0) (C := jR3) (T := jT3) (N := 5) d_J_serial_15 (c_S_isPossible hI hC hz hx) rfl rfl (hC _ _ (by decide)) wl325 wl326 wl327 wl41 wl328 (by decide +kernel) ⟨rfl, rfl⟩ (by decide) rfl rfl (Nat.le_of_ble_eq_true rfl) rfl (q := 18) rfl (fun r15 τ15 e15 => ?_)
  obtain ⟨rfl, rfl⟩ := e15
  refine j_zret X d_J_serial_18 (jB_narrow _) ?_
  exact ⟨rfl, hfr⟩
set_option maxRecDepth 100000 in
set_option maxHeartbeats 4000000 in
theorem c_J_place {l : Launch} {Θ : jxT} (hI : jxI Θ) (hC : ∀ g r, r < jrwJ g → Θ.2.2.2 g r) {h : jH} {σ : jxM} (hw : jHw h) (hs : jHs h σ) (x : Int32) : jxMet l y_J_place b_J_place 2 (some FieldType.int) (jrm 7) Θ [.inr (0, 0), .inl x] σ (fun r' σ' => (∃ v, r' = some (.inl v) ∧ ((jd (jsdR h (hyR h)) && jd (jce (jcmt h) (jmfc (jbfR h (hyR h)) (jrbR h (hyR h))) (fun _ => false))) = false ∨ jin x (jct (jcmt h)) = false → v = -1) ∧ ((jd (jsdR h (hyR h)) && jd (jce (jcmt h) (jmfc (jbfR h (hyR h)) (jrbR h (hyR h))) (fun _ => false))) = true → ∀ k, k < jct (jcmt h) → x = nI k → ∃ q, q < 8 ∧ v = nI q ∧ ∀ n ρ, jlo (jcmt h) (jmfc (jbfR h (hyR h)) (jrbR h (hyR h))) n ρ → q = ρ k)) ∧ jfr σ σ') := by
  refine jxMet.of (own := "HistoryJudge") hI (by decide) rfl (Nat.le_of_ble_eq_true rfl) (fun Γ X => ?_)
  show jxW Γ Θ (fun r' σ' => (∃ v, r' = some (.inl v) ∧ ((jd (jsdR h (hyR h)) && jd (jce (jcmt h) (jmfc (jbfR h (hyR h)) (jrbR h (hyR h))) (fun _ => false))) = false ∨ jin x (jct (jcmt h)) = false → v = -1) ∧ ((jd (jsdR h (hyR h)) && jd (jce (jcmt h) (jmfc (jbfR h (hyR h)) (jrbR h (hyR h))) (fun _ => false))) = true → ∀ k, k < jct (jcmt h) → x = nI k → ∃ q, q < 8 ∧ v = nI q ∧ ∀ n ρ, jlo (jcmt h) (jmfc (jbfR h (hyR h)) (jrbR h (hyR h))) n ρ → q = ρ k)) ∧ jfr σ σ') 0 [some (.inr (0, 0)), some (.inl x)] [] σ
  refine j_aload_n X (q := 1) d_J_place_0 rfl rfl ?_
  refine j_getR X (C := jR4) (T := jT4) (N := 4) (ci := 4) (j := 3) (q := 4) d_J_place_1 ju4 rfl rfl rfl (by decide) wl169 rfl (hC _ _ (by decide)) rfl ?_
  refine j_aload_n X (q := 5) d_J_place_4 rfl rfl ?_
  refine j_getR X (C := jR4) (T := jT4) (N := 4) (ci := 4) (j := 0) (q := 8) d_J_place_5 ju4 rfl rfl rfl (by decide) wl166 rfl (hC _ _ (by decide)) rfl ?_
  refine j_callV X (n := 1) (C := jR3) (T := jT3) (N := 5) d_J_place_8 (c_S_explore hI hC hw hs) rfl rfl (hC _ _ (by decide)) wl289 wl290 wl291 wl41 wl292 (by decide +kernel) ⟨rfl, rfl⟩ (by decide) rfl rfl (Nat.le_of_ble_eq_true rfl) rfl (q := 11) rfl (fun r8 τ8 e8 => ?_)
  obtain ⟨rfl, hz, hx, hf⟩ := e8
  have hfr : jfr σ τ8 := fun g hg => hf g (by omega)
  refine j_aload_n X (q := 12) d_J_place_11 rfl rfl ?_
  refine j_getR X (C := jR4) (T := jT4) (N := 4) (ci := 4) (j := 3) (q := 15) d_J_place_12 ju4 rfl rfl rfl (by decide) wl169 rfl (hC _ _ (by decide)) rfl ?_
  refine j_iload_n X (q := 16) d_J_place_15 rfl rfl ?_
  refine j_callV X (n := 1) (C := jR3) (T := jT3) (N := 5) d_J_place_16 (c_S_transactionAt hI hC hz hx x) rfl rfl (hC _ _ (by decide)) wl333 wl334 wl335 wl41 wl336 (by decide +kernel) ⟨rfl, rfl⟩ (by decide) rfl rfl (Nat.le_of_ble_eq_true rfl) rfl (q := 19) rfl (fun r16 τ16 e16 => ?_)
  obtain ⟨rfl, v, rfl, hv1, hv2⟩ := e16
  refine j_iret X d_J_place_19 ?_
  exact ⟨⟨v, rfl, hv1, hv2⟩, hfr⟩
set_option maxRecDepth 100000 in
set_option maxHeartbeats 4000000 in
theorem c_J_beginnings {l : Launch} {Θ : jxT} (hI : jxI Θ) (hC : ∀ g r, r < jrwJ g → Θ.2.2.2 g r) {h : jH} {σ : jxM} (hw : jHw h) (hs : jHs h σ)  : jxMet l y_J_beginnings b_J_beginnings 1 (some FieldType.int) (jrm 7) Θ [.inr (0, 0)] σ (fun r' σ' => r' = some (.inl (nI (jct (jnS (jcmt h) (jbfR h (hyR h)) (jrbR h (hyR h)) (jd (jsdR h (hyR h))) 0)))) ∧ jfr σ σ') := by
  refine jxMet.of (own := "HistoryJudge") hI (by decide) rfl (Nat.le_of_ble_eq_true rfl) (fun Γ X => ?_)
  show jxW Γ Θ (fun r' σ' => r' = some (.inl (nI (jct (jnS (jcmt h) (jbfR h (hyR h)) (jrbR h (hyR h)) (jd (jsdR h (hyR h))) 0)))) ∧ jfr σ σ') 0 [some (.inr (0, 0))] [] σ
  refine j_aload_n X (q := 1) d_J_beginnings_0 rfl rfl ?_
  refine j_getR X (C := jR4) (T := jT4) (N := 4) (ci := 4) (j := 3) (q := 4) d_J_beginnings_1 ju4 rfl rfl rfl (by decide) wl169 rfl (hC _ _ (by decide)) rfl ?_
  refine j_aload_n X (q := 5) d_J_beginnings_4 rfl rfl ?_
  refine j_getR X (C := jR4) (T := jT4) (N := 4) (ci := 4) (j := 0) (q := 8) d_J_beginnings_5 ju4 rfl rfl rfl (by decide) wl166 rfl (hC _ _ (by decide)) rfl ?_
  refine j_callV X (n := 1) (C := jR3) (T := jT3) (N := 5) d_J_beginnings_8 (c_S_explore hI hC hw hs) rfl rfl (hC _ _ (by decide)) wl289 wl290 wl291 wl41 wl292 (by decide +kernel) ⟨rfl, rfl⟩ (by decide) rfl rfl (Nat.le_of_ble_eq_true rfl) rfl (q := 11) rfl (fun r8 τ8 e8 => ?_)
  obtain ⟨rfl, hz, hx, hf⟩ := e8
  have hfr : jfr σ τ8 := fun g hg => hf g (by omega)
  refine j_aload_n X (q := 12) d_J_beginnings_11 rfl rfl ?_
  refine j_getR X (C := jR4) (T := jT4) (N := 4) (ci := 4) (j := 3) (q := 15) d_J_beginnings_12 ju4 rfl rfl rfl (by decide) wl169 rfl (hC _ _ (by decide)) rfl ?_
  refine j_getR X (C := jR3) (T := jT3) (N := 5) (ci := 3) (j := 2) (q := 18) d_J_beginnings_15 ju3 rfl rfl rfl (by decide) wl158 rfl (hC _ _ (by decide)) rfl ?_
  refine j_iconst X (v := (nI 0)) (q := 19) d_J_beginnings_18 (by decide +kernel) rfl ?_
  refine j_iald X (j := 0) (q := 20) d_J_beginnings_19 rfl (by decide) rfl (by decide) (hC _ _ (by decide)) rfl (show _ = bI (jnS (jcmt h) (jbfR h (hyR h)) (jrbR h (hyR h)) (jd (jsdR h (hyR h))) 0) by rw [hx 0 (by decide), jnxt_bI]) ?_
  refine j_callS X (n := 1) d_J_beginnings_20 (c_I_bitCount hI (bI (jnS (jcmt h) (jbfR h (hyR h)) (jrbR h (hyR h)) (jd (jsdR h (hyR h))) 0)) _) wl348 wl339 wl50 wl340 (by decide +kernel) ⟨rfl, rfl⟩ (by decide) rfl rfl (Nat.le_of_ble_eq_true rfl) rfl (q := 23) rfl (fun r20 τ20 e20 => ?_)
  obtain ⟨rfl, rfl⟩ := e20
  refine j_iret X d_J_beginnings_23 ?_
  exact ⟨by rw [jbc_bI], hfr⟩
set_option maxRecDepth 100000 in
set_option maxHeartbeats 4000000 in
theorem c_J_clear {l : Launch} {Θ : jxT} (hI : jxI Θ) (hC : ∀ g r, r < jrwJ g → Θ.2.2.2 g r) {h : jH} {σ : jxM} (hw : jHw h) (hs : jHs h σ)  : jxMet l y_J_clear b_J_clear 2 (some FieldType.int) (jrm 3) Θ [.inr (0, 0)] σ (fun r' σ' => r' = some (.inl (nI (hyV h))) ∧ jHs jh0 σ' ∧ ∀ g, 14 ≤ g → σ' g = σ g) := by
  refine jxMet.of (own := "HistoryJudge") hI (by decide) rfl (Nat.le_of_ble_eq_true rfl) (fun Γ X => ?_)
  show jxW Γ Θ (fun r' σ' => r' = some (.inl (nI (hyV h))) ∧ jHs jh0 σ' ∧ ∀ g, 14 ≤ g → σ' g = σ g) 0 [some (.inr (0, 0)), none] [] σ
  refine j_aload_n X (q := 1) d_J_clear_0 rfl rfl ?_
  refine j_getR X (C := jR4) (T := jT4) (N := 4) (ci := 4) (j := 0) (q := 4) d_J_clear_1 ju4 rfl rfl rfl (by decide) wl166 rfl (hC _ _ (by decide)) rfl ?_
  refine j_getI X (C := jR2) (T := jT2) (N := 12) (ci := 2) (j := 3) (q := 7) d_J_clear_4 ju2 rfl rfl rfl (by decide) wl80 rfl (hC _ _ (by decide)) rfl (jHs_V hs) ?_
  refine j_istore_n X (j := 1) (q := 8) d_J_clear_7 rfl (Nat.le_of_ble_eq_true rfl) rfl ?_
  refine j_aload_n X (q := 9) d_J_clear_8 rfl rfl ?_
  refine j_getR X (C := jR4) (T := jT4) (N := 4) (ci := 4) (j := 0) (q := 12) d_J_clear_9 ju4 rfl rfl rfl (by decide) wl166 rfl (hC _ _ (by decide)) rfl ?_
  refine j_callV X (n := 0) (C := jR2) (T := jT2) (N := 12) d_J_clear_12 (c_H_reset hI (fun g r q => hC g r (jHJ q)) σ) rfl rfl (hC _ _ (by decide)) wl353 wl67 wl68 wl37 wl69 (by decide +kernel) ⟨rfl, rfl⟩ (by decide) rfl rfl (Nat.le_of_ble_eq_true rfl) rfl (q := 15) rfl (fun r12 τ12 e12 => ?_)
  obtain ⟨rfl, h1, h2⟩ := e12
  refine j_iload_n X (q := 16) d_J_clear_15 rfl rfl ?_
  refine j_iret X d_J_clear_16 ?_
  exact ⟨rfl, h1, h2⟩
