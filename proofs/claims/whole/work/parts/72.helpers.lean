/-! The law's helpers: write, read, end: codes instead of exceptions. -/
def jrL : Room := { frames := 7, cells := 1, slots := 6, locals := 270 }
theorem jxLQ_r {Γ : jxG} {Θ : jxT} {Φ' : jxF} {pc k n : Nat} {L : List (Option jxV)} {st : List jxV} {σ : jxM} (kk : jxWq Γ Θ (jxLQ Γ Θ Φ' (k + 1) (n + 6)) pc L st σ) : jxWq Γ Θ ((jxLQ Γ Θ Φ' k n).1, (jxLQ Γ Θ Φ' k n).2.1 + 1, (jxLQ Γ Θ Φ' k n).2.2 + 6) pc L st σ := by
  obtain ⟨p, l', e, R, s, m, args, below, meth, c, A⟩ := Γ
  exact kk
set_option maxRecDepth 100000 in
set_option maxHeartbeats 4000000 in
theorem c_L_write {l : Launch} {Θ : jxT} (hI : jxI Θ) (htr : l.stackTraces = false) (hC : ∀ g r, r < jrwJ g → Θ.2.2.2 g r) (hO : Θ.2.2.2 60 0) {h : jH} {σ : jxM} (hw : jHw h) (hs : jHs h σ) (a b : Int32) : jxMeL l y_L_write b_L_write 5 (some FieldType.int) [(0, 10, 13, 13), (0, 10, 17, 15), (0, 10, 21, 17)] jrL Θ [.inr (0, 0), .inl a, .inl b, .inr (60, 0)] σ (fun r' σ' => r' = some (.inl (nI (jwc h a b))) ∧ (jwc h a b ≠ 0 → σ = σ') ∧ (jwc h a b = 0 → σ' 60 0 0 = nI (hyV h) ∧ jHs (jaddV h a.toNatClampNeg b.toNatClampNeg) σ') ∧ ∀ g, 14 ≤ g → g ≠ 60 → σ' g = σ g) := by
  refine jxMeL.of (own := "HistoryJudgeLaw") hI (by decide) rfl (Nat.le_of_ble_eq_true rfl) (fun Γ X Y => ?_)
  show jxWq Γ Θ (jxLQ Γ Θ (fun r' σ' => r' = some (.inl (nI (jwc h a b))) ∧ (jwc h a b ≠ 0 → σ = σ') ∧ (jwc h a b = 0 → σ' 60 0 0 = nI (hyV h) ∧ jHs (jaddV h a.toNatClampNeg b.toNatClampNeg) σ') ∧ ∀ g, 14 ≤ g → g ≠ 60 → σ' g = σ g) 0 0) 0 [some (.inr (0, 0)), some (.inl a), some (.inl b), some (.inr (60, 0)), none] [] σ
  have bV := jHw_V hw
  have bR := jHw_R hw
  refine q_aload_n X (q := 1) d_L_write_0 rfl rfl ?_
  refine q_iconst X (v := (nI 0)) (q := 2) d_L_write_1 (by decide +kernel) rfl ?_
  refine q_aload_n X (q := 3) d_L_write_2 rfl rfl ?_
  refine q_iload_n X (q := 4) d_L_write_3 rfl rfl ?_
  refine q_iload_n X (q := 5) d_L_write_4 rfl rfl ?_
  
  by_cases hc : jwc h a b = 0
  · have hok := True.intro
    refine q_callV X (n := 2) (C := jR4) (T := jT4) (N := 4) d_L_write_5 (c_J_write hI hC hw hs a b hc) rfl rfl (hC _ _ (by decide)) wl359 wl360 wl361 wl36 wl362 (by decide +kernel) (by rw [(jxLQ_2 _ _ _ _ _).1, (jxLQ_2 _ _ _ _ _).2]; decide) ⟨rfl, rfl⟩ (by decide) rfl rfl (Nat.le_of_ble_eq_true rfl) rfl (q := 8) rfl (fun r5 τ5 e5 => ?_)
    obtain ⟨rfl, q1, q2⟩ := e5
    
    refine q_i2last X (g := 60) (r := 0) (n := 1) (j := 0) (q := 10) d_L_write_8 d_L_write_9 rfl (by decide) rfl (by decide) hO rfl ?_
    refine q_goto X (tgt := 25) d_L_write_10 (by decide) ?_
    refine q_iconst X (v := nI 0) (q := 26) d_L_write_25 (by decide +kernel) rfl ?_
    refine jxLQ_w ?_ (by decide) (by decide)
    refine q_iret X d_L_write_26 ?_
    exact ⟨by rw [hc], fun q => absurd hc q, fun _ => ⟨by rw [jxs_at, if_pos ⟨rfl, rfl, rfl⟩], jHs_keep q1 (fun g hg => jxs_g _ _ _ _ _ (by omega))⟩, fun g hg h60 => by rw [jxs_g _ _ _ _ _ h60]; exact q2 g hg⟩
  · have hk : jwc h a b = 1 ∨ jwc h a b = 2 ∨ jwc h a b = 3 := by have := jwc_4 h a b; omega
    rcases hk with hk | hk | hk
    · have hne := hc
      refine q_caught X Y (E := "java/lang/IllegalArgumentException") (pre := []) (post := [(0, 10, 17, 15), (0, 10, 21, 17)]) (ca := 0) (cb := 10) (hpc := 13) (ct := 13) (n := 2) (C := jR4) (T0 := jT4) (N := 4) (rest := [.inl (nI 0), .inr (60, 0)]) d_L_write_5 (c_J_write_T hI htr hC hw hs a b hk (by decide)) rfl rfl (hC _ _ (by decide)) wl359 wl360 wl361 wl36 wl362 (by decide +kernel) (by rw [(jxLQ_2 _ _ _ _ _).1, (jxLQ_2 _ _ _ _ _).2]; decide) ⟨rfl, rfl⟩ (by decide) rfl rfl (by decide) rfl rfl (by decide) (by decide) wl356 (fun q hq => (by cases hq)) ?_
      refine r_astore X (q := 15) d_L_write_13 (Nat.le_of_ble_eq_true rfl) rfl ?_
      refine jxLQ_r (k := 0) (n := 0) ?_
      refine q_iconst X (v := nI 1) (q := 16) d_L_write_15 (by decide +kernel) rfl ?_
      refine q_iret X d_L_write_16 ?_
      exact ⟨by rw [hk], fun _ => rfl, fun q => absurd q hne, fun _ _ _ => rfl⟩
    · have hne := hc
      refine q_caught X Y (E := "java/lang/IllegalStateException") (pre := [(0, 10, 13, 13)]) (post := [(0, 10, 21, 17)]) (ca := 0) (cb := 10) (hpc := 17) (ct := 15) (n := 2) (C := jR4) (T0 := jT4) (N := 4) (rest := [.inl (nI 0), .inr (60, 0)]) d_L_write_5 (c_J_write_T hI htr hC hw hs a b hk (by decide)) rfl rfl (hC _ _ (by decide)) wl359 wl360 wl361 wl36 wl362 (by decide +kernel) (by rw [(jxLQ_2 _ _ _ _ _).1, (jxLQ_2 _ _ _ _ _).2]; decide) ⟨rfl, rfl⟩ (by decide) rfl rfl (by decide) rfl rfl (by decide) (by decide) wl357 (List.forall_mem_cons.mpr ⟨⟨by decide, _, wl356, by decide +kernel⟩, (fun q hq => (by cases hq))⟩) ?_
      refine r_astore X (q := 19) d_L_write_17 (Nat.le_of_ble_eq_true rfl) rfl ?_
      refine jxLQ_r (k := 0) (n := 0) ?_
      refine q_iconst X (v := nI 2) (q := 20) d_L_write_19 (by decide +kernel) rfl ?_
      refine q_iret X d_L_write_20 ?_
      exact ⟨by rw [hk], fun _ => rfl, fun q => absurd q hne, fun _ _ _ => rfl⟩
    · have hne := hc
      refine q_caught X Y (E := "java/lang/UnsupportedOperationException") (pre := [(0, 10, 13, 13), (0, 10, 17, 15)]) (post := []) (ca := 0) (cb := 10) (hpc := 21) (ct := 17) (n := 2) (C := jR4) (T0 := jT4) (N := 4) (rest := [.inl (nI 0), .inr (60, 0)]) d_L_write_5 (c_J_write_T hI htr hC hw hs a b hk (by decide)) rfl rfl (hC _ _ (by decide)) wl359 wl360 wl361 wl36 wl362 (by decide +kernel) (by rw [(jxLQ_2 _ _ _ _ _).1, (jxLQ_2 _ _ _ _ _).2]; decide) ⟨rfl, rfl⟩ (by decide) rfl rfl (by decide) rfl rfl (by decide) (by decide) wl358 (List.forall_mem_cons.mpr ⟨⟨by decide, _, wl356, by decide +kernel⟩, (List.forall_mem_cons.mpr ⟨⟨by decide, _, wl357, by decide +kernel⟩, (fun q hq => (by cases hq))⟩)⟩) ?_
      refine r_astore X (q := 23) d_L_write_21 (Nat.le_of_ble_eq_true rfl) rfl ?_
      refine jxLQ_r (k := 0) (n := 0) ?_
      refine q_iconst X (v := nI 3) (q := 24) d_L_write_23 (by decide +kernel) rfl ?_
      refine q_iret X d_L_write_24 ?_
      exact ⟨by rw [hk], fun _ => rfl, fun q => absurd q hne, fun _ _ _ => rfl⟩
set_option maxRecDepth 100000 in
set_option maxHeartbeats 4000000 in
theorem c_L_read {l : Launch} {Θ : jxT} (hI : jxI Θ) (htr : l.stackTraces = false) (hC : ∀ g r, r < jrwJ g → Θ.2.2.2 g r) (hO : Θ.2.2.2 60 0) {h : jH} {σ : jxM} (hw : jHw h) (hs : jHs h σ) (a b y : Int32) : jxMeL l y_L_read b_L_read 6 (some FieldType.int) [(0, 12, 15, 13), (0, 12, 19, 23), (0, 12, 23, 15), (0, 12, 27, 17)] jrL Θ [.inr (0, 0), .inl a, .inl b, .inl y, .inr (60, 0)] σ (fun r' σ' => r' = some (.inl (nI (jrc h a b y))) ∧ (jrc h a b y ≠ 0 → σ = σ') ∧ (jrc h a b y = 0 → σ' 60 0 0 = nI (hyR h + 1) ∧ jHs (jaddR h a.toNatClampNeg b.toNatClampNeg (jyO y)) σ') ∧ ∀ g, 14 ≤ g → g ≠ 60 → σ' g = σ g) := by
  refine jxMeL.of (own := "HistoryJudgeLaw") hI (by decide) rfl (Nat.le_of_ble_eq_true rfl) (fun Γ X Y => ?_)
  show jxWq Γ Θ (jxLQ Γ Θ (fun r' σ' => r' = some (.inl (nI (jrc h a b y))) ∧ (jrc h a b y ≠ 0 → σ = σ') ∧ (jrc h a b y = 0 → σ' 60 0 0 = nI (hyR h + 1) ∧ jHs (jaddR h a.toNatClampNeg b.toNatClampNeg (jyO y)) σ') ∧ ∀ g, 14 ≤ g → g ≠ 60 → σ' g = σ g) 0 0) 0 [some (.inr (0, 0)), some (.inl a), some (.inl b), some (.inl y), some (.inr (60, 0)), none] [] σ
  have bV := jHw_V hw
  have bR := jHw_R hw
  refine q_aload X (q := 2) d_L_read_0 rfl rfl ?_
  refine q_iconst X (v := (nI 0)) (q := 3) d_L_read_2 (by decide +kernel) rfl ?_
  refine q_aload_n X (q := 4) d_L_read_3 rfl rfl ?_
  refine q_iload_n X (q := 5) d_L_read_4 rfl rfl ?_
  refine q_iload_n X (q := 6) d_L_read_5 rfl rfl ?_
  refine q_iload_n X (q := 7) d_L_read_6 rfl rfl ?_
  
  by_cases hc : jrc h a b y = 0
  · have hok := True.intro
    refine q_callV X (n := 3) (C := jR4) (T := jT4) (N := 4) d_L_read_7 (c_J_read hI hC hw hs a b y hc) rfl rfl (hC _ _ (by decide)) wl442 wl443 wl444 wl36 wl445 (by decide +kernel) (by rw [(jxLQ_2 _ _ _ _ _).1, (jxLQ_2 _ _ _ _ _).2]; decide) ⟨rfl, rfl⟩ (by decide) rfl rfl (Nat.le_of_ble_eq_true rfl) rfl (q := 10) rfl (fun r7 τ7 e7 => ?_)
    obtain ⟨rfl, q1, q2⟩ := e7
    
    refine q_i2last X (g := 60) (r := 0) (n := 1) (j := 0) (q := 12) d_L_read_10 d_L_read_11 rfl (by decide) rfl (by decide) hO rfl ?_
    refine q_goto X (tgt := 31) d_L_read_12 (by decide) ?_
    refine q_iconst X (v := nI 0) (q := 32) d_L_read_31 (by decide +kernel) rfl ?_
    refine jxLQ_w ?_ (by decide) (by decide)
    refine q_iret X d_L_read_32 ?_
    exact ⟨by rw [hc], fun q => absurd hc q, fun _ => ⟨by rw [jxs_at, if_pos ⟨rfl, rfl, rfl⟩], jHs_keep q1 (fun g hg => jxs_g _ _ _ _ _ (by omega))⟩, fun g hg h60 => by rw [jxs_g _ _ _ _ _ h60]; exact q2 g hg⟩
  · have hk : jrc h a b y = 1 ∨ jrc h a b y = 2 ∨ jrc h a b y = 3 ∨ jrc h a b y = 4 := by have := jrc_5 h a b y; omega
    rcases hk with hk | hk | hk | hk
    · have hne := hc
      refine q_caught X Y (E := "java/lang/IllegalArgumentException") (pre := []) (post := [(0, 12, 19, 23), (0, 12, 23, 15), (0, 12, 27, 17)]) (ca := 0) (cb := 12) (hpc := 15) (ct := 13) (n := 3) (C := jR4) (T0 := jT4) (N := 4) (rest := [.inl (nI 0), .inr (60, 0)]) d_L_read_7 (c_J_read_T hI htr hC hw hs a b y hk (by decide)) rfl rfl (hC _ _ (by decide)) wl442 wl443 wl444 wl36 wl445 (by decide +kernel) (by rw [(jxLQ_2 _ _ _ _ _).1, (jxLQ_2 _ _ _ _ _).2]; decide) ⟨rfl, rfl⟩ (by decide) rfl rfl (by decide) rfl rfl (by decide) (by decide) wl356 (fun q hq => (by cases hq)) ?_
      refine r_astore X (q := 17) d_L_read_15 (Nat.le_of_ble_eq_true rfl) rfl ?_
      refine jxLQ_r (k := 0) (n := 0) ?_
      refine q_iconst X (v := nI 1) (q := 18) d_L_read_17 (by decide +kernel) rfl ?_
      refine q_iret X d_L_read_18 ?_
      exact ⟨by rw [hk], fun _ => rfl, fun q => absurd q hne, fun _ _ _ => rfl⟩
    · have hne := hc
      refine q_caught X Y (E := "java/util/NoSuchElementException") (pre := [(0, 12, 15, 13)]) (post := [(0, 12, 23, 15), (0, 12, 27, 17)]) (ca := 0) (cb := 12) (hpc := 19) (ct := 23) (n := 3) (C := jR4) (T0 := jT4) (N := 4) (rest := [.inl (nI 0), .inr (60, 0)]) d_L_read_7 (c_J_read_T hI htr hC hw hs a b y hk (by decide)) rfl rfl (hC _ _ (by decide)) wl442 wl443 wl444 wl36 wl445 (by decide +kernel) (by rw [(jxLQ_2 _ _ _ _ _).1, (jxLQ_2 _ _ _ _ _).2]; decide) ⟨rfl, rfl⟩ (by decide) rfl rfl (by decide) rfl rfl (by decide) (by decide) wl441 (List.forall_mem_cons.mpr ⟨⟨by decide, _, wl356, by decide +kernel⟩, (fun q hq => (by cases hq))⟩) ?_
      refine r_astore X (q := 21) d_L_read_19 (Nat.le_of_ble_eq_true rfl) rfl ?_
      refine jxLQ_r (k := 0) (n := 0) ?_
      refine q_iconst X (v := nI 2) (q := 22) d_L_read_21 (by decide +kernel) rfl ?_
      refine q_iret X d_L_read_22 ?_
      exact ⟨by rw [hk], fun _ => rfl, fun q => absurd q hne, fun _ _ _ => rfl⟩
    · have hne := hc
      refine q_caught X Y (E := "java/lang/IllegalStateException") (pre := [(0, 12, 15, 13), (0, 12, 19, 23)]) (post := [(0, 12, 27, 17)]) (ca := 0) (cb := 12) (hpc := 23) (ct := 15) (n := 3) (C := jR4) (T0 := jT4) (N := 4) (rest := [.inl (nI 0), .inr (60, 0)]) d_L_read_7 (c_J_read_T hI htr hC hw hs a b y hk (by decide)) rfl rfl (hC _ _ (by decide)) wl442 wl443 wl444 wl36 wl445 (by decide +kernel) (by rw [(jxLQ_2 _ _ _ _ _).1, (jxLQ_2 _ _ _ _ _).2]; decide) ⟨rfl, rfl⟩ (by decide) rfl rfl (by decide) rfl rfl (by decide) (by decide) wl357 (List.forall_mem_cons.mpr ⟨⟨by decide, _, wl356, by decide +kernel⟩, (List.forall_mem_cons.mpr ⟨⟨by decide, _, wl441, by decide +kernel⟩, (fun q hq => (by cases hq))⟩)⟩) ?_
      refine r_astore X (q := 25) d_L_read_23 (Nat.le_of_ble_eq_true rfl) rfl ?_
      refine jxLQ_r (k := 0) (n := 0) ?_
      refine q_iconst X (v := nI 3) (q := 26) d_L_read_25 (by decide +kernel) rfl ?_
      refine q_iret X d_L_read_26 ?_
      exact ⟨by rw [hk], fun _ => rfl, fun q => absurd q hne, fun _ _ _ => rfl⟩
    · have hne := hc
      refine q_caught X Y (E := "java/lang/UnsupportedOperationException") (pre := [(0, 12, 15, 13), (0, 12, 19, 23), (0, 12, 23, 15)]) (post := []) (ca := 0) (cb := 12) (hpc := 27) (ct := 17) (n := 3) (C := jR4) (T0 := jT4) (N := 4) (rest := [.inl (nI 0), .inr (60, 0)]) d_L_read_7 (c_J_read_T hI htr hC hw hs a b y hk (by decide)) rfl rfl (hC _ _ (by decide)) wl442 wl443 wl444 wl36 wl445 (by decide +kernel) (by rw [(jxLQ_2 _ _ _ _ _).1, (jxLQ_2 _ _ _ _ _).2]; decide) ⟨rfl, rfl⟩ (by decide) rfl rfl (by decide) rfl rfl (by decide) (by decide) wl358 (List.forall_mem_cons.mpr ⟨⟨by decide, _, wl356, by decide +kernel⟩, (List.forall_mem_cons.mpr ⟨⟨by decide, _, wl441, by decide +kernel⟩, (List.forall_mem_cons.mpr ⟨⟨by decide, _, wl357, by decide +kernel⟩, (fun q hq => (by cases hq))⟩)⟩)⟩) ?_
      refine r_astore X (q := 29) d_L_read_27 (Nat.le_of_ble_eq_true rfl) rfl ?_
      refine jxLQ_r (k := 0) (n := 0) ?_
      refine q_iconst X (v := nI 4) (q := 30) d_L_read_29 (by decide +kernel) rfl ?_
      refine q_iret X d_L_read_30 ?_
      exact ⟨by rw [hk], fun _ => rfl, fun q => absurd q hne, fun _ _ _ => rfl⟩
set_option maxRecDepth 100000 in
set_option maxHeartbeats 4000000 in
theorem c_L_end {l : Launch} {Θ : jxT} (hI : jxI Θ) (htr : l.stackTraces = false) (hC : ∀ g r, r < jrwJ g → Θ.2.2.2 g r) {h : jH} {σ : jxM} (hw : jHw h) (hs : jHs h σ) (a : Int32) (b : Bool) : jxMeL l y_L_end b_L_end 4 (some FieldType.int) [(0, 6, 9, 13), (0, 6, 12, 15)] jrL Θ [.inr (0, 0), .inl a, .inl (jB b)] σ (fun r' σ' => r' = some (.inl (nI (jec h a))) ∧ (jec h a ≠ 0 → σ = σ') ∧ (jec h a = 0 → b = true → jHs (jcomP h a.toNatClampNeg 6) σ') ∧ (jec h a = 0 → b = false → jHs (jend h a.toNatClampNeg 3) σ') ∧ ∀ g, 14 ≤ g → g ≠ 60 → σ' g = σ g) := by
  refine jxMeL.of (own := "HistoryJudgeLaw") hI (by decide) rfl (Nat.le_of_ble_eq_true rfl) (fun Γ X Y => ?_)
  show jxWq Γ Θ (jxLQ Γ Θ (fun r' σ' => r' = some (.inl (nI (jec h a))) ∧ (jec h a ≠ 0 → σ = σ') ∧ (jec h a = 0 → b = true → jHs (jcomP h a.toNatClampNeg 6) σ') ∧ (jec h a = 0 → b = false → jHs (jend h a.toNatClampNeg 3) σ') ∧ ∀ g, 14 ≤ g → g ≠ 60 → σ' g = σ g) 0 0) 0 [some (.inr (0, 0)), some (.inl a), some (.inl (jB b)), none] [] σ
  have bV := jHw_V hw
  have bR := jHw_R hw
  refine q_aload_n X (q := 1) d_L_end_0 rfl rfl ?_
  refine q_iload_n X (q := 2) d_L_end_1 rfl rfl ?_
  refine q_iload_n X (q := 3) d_L_end_2 rfl rfl ?_
  
  by_cases hc : jec h a = 0
  · have hok := True.intro
    refine q_callV X (n := 2) (C := jR4) (T := jT4) (N := 4) d_L_end_3 (c_J_end hI hC hw hs a b hc) rfl rfl (hC _ _ (by decide)) wl469 wl470 wl471 wl36 wl472 (by decide +kernel) (by rw [(jxLQ_2 _ _ _ _ _).1, (jxLQ_2 _ _ _ _ _).2]; decide) ⟨rfl, rfl⟩ (by decide) rfl rfl (Nat.le_of_ble_eq_true rfl) rfl (q := 6) rfl (fun r3 τ3 e3 => ?_)
    obtain ⟨rfl, q1, q2, q3⟩ := e3
    
    refine q_goto X (tgt := 15) d_L_end_6 (by decide) ?_
    refine q_iconst X (v := nI 0) (q := 16) d_L_end_15 (by decide +kernel) rfl ?_
    refine jxLQ_w ?_ (by decide) (by decide)
    refine q_iret X d_L_end_16 ?_
    exact ⟨by rw [hc], fun q => absurd hc q, fun _ q => q1 q, fun _ q => q2 q, fun g hg _ => q3 g hg⟩
  · have hk : jec h a = 1 ∨ jec h a = 2 := by have := jec_3 h a; omega
    rcases hk with hk | hk
    · have hne := hc
      refine q_caught X Y (E := "java/lang/IllegalArgumentException") (pre := []) (post := [(0, 6, 12, 15)]) (ca := 0) (cb := 6) (hpc := 9) (ct := 13) (n := 2) (C := jR4) (T0 := jT4) (N := 4) (rest := []) d_L_end_3 (c_J_end_T hI htr hC hw hs a b hk (by decide)) rfl rfl (hC _ _ (by decide)) wl469 wl470 wl471 wl36 wl472 (by decide +kernel) (by rw [(jxLQ_2 _ _ _ _ _).1, (jxLQ_2 _ _ _ _ _).2]; decide) ⟨rfl, rfl⟩ (by decide) rfl rfl (by decide) rfl rfl (by decide) (by decide) wl356 (fun q hq => (by cases hq)) ?_
      refine r_astore_n X (j := 3) (q := 10) d_L_end_9 rfl (Nat.le_of_ble_eq_true rfl) rfl ?_
      refine jxLQ_r (k := 0) (n := 0) ?_
      refine q_iconst X (v := nI 1) (q := 11) d_L_end_10 (by decide +kernel) rfl ?_
      refine q_iret X d_L_end_11 ?_
      exact ⟨by rw [hk], fun _ => rfl, fun q _ => absurd q hne, fun q _ => absurd q hne, fun _ _ _ => rfl⟩
    · have hne := hc
      refine q_caught X Y (E := "java/lang/IllegalStateException") (pre := [(0, 6, 9, 13)]) (post := []) (ca := 0) (cb := 6) (hpc := 12) (ct := 15) (n := 2) (C := jR4) (T0 := jT4) (N := 4) (rest := []) d_L_end_3 (c_J_end_T hI htr hC hw hs a b hk (by decide)) rfl rfl (hC _ _ (by decide)) wl469 wl470 wl471 wl36 wl472 (by decide +kernel) (by rw [(jxLQ_2 _ _ _ _ _).1, (jxLQ_2 _ _ _ _ _).2]; decide) ⟨rfl, rfl⟩ (by decide) rfl rfl (by decide) rfl rfl (by decide) (by decide) wl357 (List.forall_mem_cons.mpr ⟨⟨by decide, _, wl356, by decide +kernel⟩, (fun q hq => (by cases hq))⟩) ?_
      refine r_astore_n X (j := 3) (q := 13) d_L_end_12 rfl (Nat.le_of_ble_eq_true rfl) rfl ?_
      refine jxLQ_r (k := 0) (n := 0) ?_
      refine q_iconst X (v := nI 2) (q := 14) d_L_end_13 (by decide +kernel) rfl ?_
      refine q_iret X d_L_end_14 ?_
      exact ⟨by rw [hk], fun _ => rfl, fun q _ => absurd q hne, fun q _ => absurd q hne, fun _ _ _ => rfl⟩
