/-! The class's moves that may throw: write, read, end: how they return, what they throw. -/
/-- the room of a method that throws -/
def jrT : Room := { frames := 6, cells := 1, slots := 6, locals := 240 }
def jxwE (k : Nat) : String := match k with
  | 1 => "java/lang/IllegalArgumentException"
  | 2 => "java/lang/IllegalStateException"
  | _ => "java/lang/UnsupportedOperationException"
def jxrE (k : Nat) : String := match k with
  | 1 => "java/lang/IllegalArgumentException"
  | 2 => "java/util/NoSuchElementException"
  | 3 => "java/lang/IllegalStateException"
  | _ => "java/lang/UnsupportedOperationException"
def jxeE (k : Nat) : String := match k with
  | 1 => "java/lang/IllegalArgumentException"
  | _ => "java/lang/IllegalStateException"
set_option maxRecDepth 100000 in
set_option maxHeartbeats 4000000 in
theorem c_J_write {l : Launch} {Θ : jxT} (hI : jxI Θ) (hC : ∀ g r, r < jrwJ g → Θ.2.2.2 g r) {h : jH} {σ : jxM} (hw : jHw h) (hs : jHs h σ) (a b : Int32) (hc : jwc h a b = 0) : jxMet l y_J_write b_J_write 3 (some FieldType.int) (jrm 3) Θ [.inr (0, 0), .inl a, .inl b] σ (fun r' σ' => r' = some (.inl (nI (hyV h))) ∧ jHs (jaddV h a.toNatClampNeg b.toNatClampNeg) σ' ∧ ∀ g, 14 ≤ g → σ' g = σ g) := by
  refine jxMet.of (own := "HistoryJudge") hI (by decide) rfl (Nat.le_of_ble_eq_true rfl) (fun Γ X => ?_)
  show jxW Γ Θ (fun r' σ' => r' = some (.inl (nI (hyV h))) ∧ jHs (jaddV h a.toNatClampNeg b.toNatClampNeg) σ' ∧ ∀ g, 14 ≤ g → σ' g = σ g) 0 [some (.inr (0, 0)), some (.inl a), some (.inl b)] [] σ
  have bV := jHw_V hw
  have bR := jHw_R hw
  obtain ⟨t, x, ht, hx, rfl, rfl, ca, cb, hs1, hs2⟩ := jwc_0 hc
  refine j_iload_n X (q := 1) d_J_write_0 rfl rfl ?_
  refine j_callS X (n := 1) d_J_write_1 (c_J_isTransaction hI (nI t) σ) wl178 wl179 wl36 wl180 (by decide +kernel) ⟨rfl, rfl⟩ (by decide) rfl rfl (Nat.le_of_ble_eq_true rfl) rfl (q := 4) rfl (fun r1 τ1 e1 => ?_)
  obtain ⟨rfl, rfl⟩ := e1
  refine j_bif_eq X (tgt := 14) (q := 7) d_J_write_4 (by decide) rfl (fun h4 => ?_) (fun h4 => ?_)
  · have _b4 := True.intro
    exact absurd h4 (by rw [jin_nI (by omega), decide_eq_true ht]; exact Bool.noConfusion)
  · have _b4 := True.intro
    refine j_iload_n X (q := 8) d_J_write_7 rfl rfl ?_
    refine j_callS X (n := 1) d_J_write_8 (c_J_isItem hI (nI x) σ) wl185 wl186 wl36 wl187 (by decide +kernel) ⟨rfl, rfl⟩ (by decide) rfl rfl (Nat.le_of_ble_eq_true rfl) rfl (q := 11) rfl (fun r8 τ8 e8 => ?_)
    obtain ⟨rfl, rfl⟩ := e8
    refine j_bif_ne X (tgt := 22) (q := 14) d_J_write_11 (by decide) rfl (fun h11 => ?_) (fun h11 => ?_)
    · have _b11 := True.intro
      refine j_aload_n X (q := 23) d_J_write_22 rfl rfl ?_
      refine j_getR X (C := jR4) (T := jT4) (N := 4) (ci := 4) (j := 0) (q := 26) d_J_write_23 ju4 rfl rfl rfl (by decide) wl166 rfl (hC _ _ (by decide)) rfl ?_
      refine j_iload_n X (q := 27) d_J_write_26 rfl rfl ?_
      refine j_callV X (n := 1) (C := jR2) (T := jT2) (N := 12) d_J_write_27 (c_H_hasEnded hI (fun g r q => hC g r (jHJ q)) hw hs ht) rfl rfl (hC _ _ (by decide)) wl405 wl406 wl407 wl37 wl408 (by decide +kernel) ⟨rfl, rfl⟩ (by decide) rfl rfl (Nat.le_of_ble_eq_true rfl) rfl (q := 30) rfl (fun r27 τ27 e27 => ?_)
      obtain ⟨rfl, rfl⟩ := e27
      refine j_bif_eq X (tgt := 41) (q := 33) d_J_write_30 (by decide) rfl (fun h30 => ?_) (fun h30 => ?_)
      · have _b30 := True.intro
        refine j_aload_n X (q := 42) d_J_write_41 rfl rfl ?_
        refine j_getR X (C := jR4) (T := jT4) (N := 4) (ci := 4) (j := 0) (q := 45) d_J_write_42 ju4 rfl rfl rfl (by decide) wl166 rfl (hC _ _ (by decide)) rfl ?_
        refine j_getI X (C := jR2) (T := jT2) (N := 12) (ci := 2) (j := 3) (q := 48) d_J_write_45 ju2 rfl rfl rfl (by decide) wl80 rfl (hC _ _ (by decide)) rfl (jHs_V hs) ?_
        refine j_bipush X (v := (nI 40)) (q := 50) d_J_write_48 (by decide +kernel) rfl ?_
        refine j_ncmp_lt X (tgt := 61) (q := 53) d_J_write_50 (by decide) rfl (by omega) (by omega) (fun h50 => ?_) (fun h50 => ?_)
        · have _b50 := True.intro
          refine j_aload_n X (q := 62) d_J_write_61 rfl rfl ?_
          refine j_getR X (C := jR4) (T := jT4) (N := 4) (ci := 4) (j := 0) (q := 65) d_J_write_62 ju4 rfl rfl rfl (by decide) wl166 rfl (hC _ _ (by decide)) rfl ?_
          refine j_iload_n X (q := 66) d_J_write_65 rfl rfl ?_
          refine j_iload_n X (q := 67) d_J_write_66 rfl rfl ?_
          refine j_callV X (n := 2) (C := jR2) (T := jT2) (N := 12) d_J_write_67 (c_H_addVersion hI (fun g r q => hC g r (jHJ q)) hw hs ht hx (by omega)) rfl rfl (hC _ _ (by decide)) wl435 wl436 wl437 wl37 wl438 (by decide +kernel) ⟨rfl, rfl⟩ (by decide) rfl rfl (Nat.le_of_ble_eq_true rfl) rfl (q := 70) rfl (fun r67 τ67 e67 => ?_)
          obtain ⟨rfl, q1, q2⟩ := e67
          refine j_iret X d_J_write_70 ?_
          exact ⟨rfl, by rw [ca, cb]; exact q1, q2⟩
        · have _b50 := True.intro
          omega
      · have _b30 := True.intro
        exact absurd (of_decide_eq_true h30) hs1
    · have _b11 := True.intro
      exact absurd h11 (by rw [jin_nI (by omega), decide_eq_true hx]; exact Bool.noConfusion)
set_option maxRecDepth 100000 in
set_option maxHeartbeats 4000000 in
theorem c_J_write_T {l : Launch} {Θ : jxT} (hI : jxI Θ) (htr : l.stackTraces = false) (hC : ∀ g r, r < jrwJ g → Θ.2.2.2 g r) {h : jH} {σ : jxM} (hw : jHw h) (hs : jHs h σ) (a b : Int32) {k : Nat} (hc : jwc h a b = k) (hk : k ≠ 0) : jxThr l y_J_write b_J_write 3 (some FieldType.int) jrT Θ [.inr (0, 0), .inl a, .inl b] σ (jxwE k) := by
  refine jxThr.of (own := "HistoryJudge") hI htr (by decide) rfl (Nat.le_of_ble_eq_true rfl) (fun Γ X Z => ?_)
  show jxWq Γ Θ (jxTP Γ Θ (jxwE k) σ) 0 [some (.inr (0, 0)), some (.inl a), some (.inl b)] [] σ
  have bV := jHw_V hw
  have bR := jHw_R hw
  
  refine q_iload_n X (q := 1) d_J_write_0 rfl rfl ?_
  refine q_callS X (n := 1) d_J_write_1 (c_J_isTransaction hI a σ) wl178 wl179 wl36 wl180 (by decide +kernel) (jxTP_2 _ _ _ _ _) ⟨rfl, rfl⟩ (by decide) rfl rfl (Nat.le_of_ble_eq_true rfl) rfl (q := 4) rfl (fun r1 τ1 e1 => ?_)
  obtain ⟨rfl, rfl⟩ := e1
  refine q_bif_eq X (tgt := 14) (q := 7) d_J_write_4 (by decide) rfl (fun h4 => ?_) (fun h4 => ?_)
  · have _b4 := True.intro
    have ek : k = 1 := by rw [← hc]; unfold jwc; rw [if_neg (fun q => by rw [h4] at q; cases q.1)]
    subst ek
    exact q_throw X Z (E := "java/lang/IllegalArgumentException") (ic := 46) (by decide +kernel) wl363 wl364 wl46 d_J_write_14 d_J_write_17 d_J_write_18 d_J_write_21 (by decide) rfl
  · have _b4 := True.intro
    refine q_iload_n X (q := 8) d_J_write_7 rfl rfl ?_
    refine q_callS X (n := 1) d_J_write_8 (c_J_isItem hI b σ) wl185 wl186 wl36 wl187 (by decide +kernel) (jxTP_2 _ _ _ _ _) ⟨rfl, rfl⟩ (by decide) rfl rfl (Nat.le_of_ble_eq_true rfl) rfl (q := 11) rfl (fun r8 τ8 e8 => ?_)
    obtain ⟨rfl, rfl⟩ := e8
    refine q_bif_ne X (tgt := 22) (q := 14) d_J_write_11 (by decide) rfl (fun h11 => ?_) (fun h11 => ?_)
    · have _b11 := True.intro
      obtain ⟨t, ht, rfl⟩ := jin_of h4 (by decide)
      have ct : (nI t).toNatClampNeg = t := nI_clamp (by omega)
      obtain ⟨x, hx, rfl⟩ := jin_of h11 (by decide)
      have cx : (nI x).toNatClampNeg = x := nI_clamp (by omega)
      refine q_aload_n X (q := 23) d_J_write_22 rfl rfl ?_
      refine q_getR X (C := jR4) (T := jT4) (N := 4) (ci := 4) (j := 0) (q := 26) d_J_write_23 ju4 rfl rfl rfl (by decide) wl166 rfl (hC _ _ (by decide)) rfl ?_
      refine q_iload_n X (q := 27) d_J_write_26 rfl rfl ?_
      refine q_callV X (n := 1) (C := jR2) (T := jT2) (N := 12) d_J_write_27 (c_H_hasEnded hI (fun g r q => hC g r (jHJ q)) hw hs ht) rfl rfl (hC _ _ (by decide)) wl405 wl406 wl407 wl37 wl408 (by decide +kernel) (jxTP_2 _ _ _ _ _) ⟨rfl, rfl⟩ (by decide) rfl rfl (Nat.le_of_ble_eq_true rfl) rfl (q := 30) rfl (fun r27 τ27 e27 => ?_)
      obtain ⟨rfl, rfl⟩ := e27
      refine q_bif_eq X (tgt := 41) (q := 33) d_J_write_30 (by decide) rfl (fun h30 => ?_) (fun h30 => ?_)
      · have _b30 := True.intro
        refine q_aload_n X (q := 42) d_J_write_41 rfl rfl ?_
        refine q_getR X (C := jR4) (T := jT4) (N := 4) (ci := 4) (j := 0) (q := 45) d_J_write_42 ju4 rfl rfl rfl (by decide) wl166 rfl (hC _ _ (by decide)) rfl ?_
        refine q_getI X (C := jR2) (T := jT2) (N := 12) (ci := 2) (j := 3) (q := 48) d_J_write_45 ju2 rfl rfl rfl (by decide) wl80 rfl (hC _ _ (by decide)) rfl (jHs_V hs) ?_
        refine q_bipush X (v := (nI 40)) (q := 50) d_J_write_48 (by decide +kernel) rfl ?_
        refine q_ncmp_lt X (tgt := 61) (q := 53) d_J_write_50 (by decide) rfl (by omega) (by omega) (fun h50 => ?_) (fun h50 => ?_)
        · have _b50 := True.intro
          exact absurd hc.symm (by unfold jwc; rw [if_pos ⟨h4, h11⟩, ct, if_neg (of_decide_eq_false h30), if_neg (by omega)]; exact hk)
        · have _b50 := True.intro
          have ek : k = 3 := by rw [← hc]; unfold jwc; rw [if_pos ⟨h4, h11⟩, ct, if_neg (of_decide_eq_false h30), if_pos (by omega)]
          subst ek
          exact q_throw X Z (E := "java/lang/UnsupportedOperationException") (ic := 59) (by decide +kernel) wl422 wl423 wl48 d_J_write_53 d_J_write_56 d_J_write_57 d_J_write_60 (by decide) rfl
      · have _b30 := True.intro
        have ek : k = 2 := by rw [← hc]; unfold jwc; rw [if_pos ⟨h4, h11⟩, ct, if_pos (of_decide_eq_true h30)]
        subst ek
        exact q_throw X Z (E := "java/lang/IllegalStateException") (ic := 52) (by decide +kernel) wl409 wl410 wl47 d_J_write_33 d_J_write_36 d_J_write_37 d_J_write_40 (by decide) rfl
    · have _b11 := True.intro
      have ek : k = 1 := by rw [← hc]; unfold jwc; rw [if_neg (fun q => by rw [h11] at q; cases q.2)]
      subst ek
      exact q_throw X Z (E := "java/lang/IllegalArgumentException") (ic := 46) (by decide +kernel) wl363 wl364 wl46 d_J_write_14 d_J_write_17 d_J_write_18 d_J_write_21 (by decide) rfl
set_option maxRecDepth 100000 in
set_option maxHeartbeats 4000000 in
theorem c_J_read {l : Launch} {Θ : jxT} (hI : jxI Θ) (hC : ∀ g r, r < jrwJ g → Θ.2.2.2 g r) {h : jH} {σ : jxM} (hw : jHw h) (hs : jHs h σ) (a b y : Int32) (hc : jrc h a b y = 0) : jxMet l y_J_read b_J_read 4 (some FieldType.int) (jrm 3) Θ [.inr (0, 0), .inl a, .inl b, .inl y] σ (fun r' σ' => r' = some (.inl (nI (hyR h + 1))) ∧ jHs (jaddR h a.toNatClampNeg b.toNatClampNeg (jyO y)) σ' ∧ ∀ g, 14 ≤ g → σ' g = σ g) := by
  refine jxMet.of (own := "HistoryJudge") hI (by decide) rfl (Nat.le_of_ble_eq_true rfl) (fun Γ X => ?_)
  show jxW Γ Θ (fun r' σ' => r' = some (.inl (nI (hyR h + 1))) ∧ jHs (jaddR h a.toNatClampNeg b.toNatClampNeg (jyO y)) σ' ∧ ∀ g, 14 ≤ g → σ' g = σ g) 0 [some (.inr (0, 0)), some (.inl a), some (.inl b), some (.inl y)] [] σ
  have bV := jHw_V hw
  have bR := jHw_R hw
  obtain ⟨t, x, ht, hx, rfl, rfl, ca, cb, hs0, hs1, hs2⟩ := jrc_0 hc
  have hy := (jhv_o (by omega) hs0).1
  refine j_iload_n X (q := 1) d_J_read_0 rfl rfl ?_
  refine j_callS X (n := 1) d_J_read_1 (c_J_isTransaction hI (nI t) σ) wl178 wl179 wl36 wl180 (by decide +kernel) ⟨rfl, rfl⟩ (by decide) rfl rfl (Nat.le_of_ble_eq_true rfl) rfl (q := 4) rfl (fun r1 τ1 e1 => ?_)
  obtain ⟨rfl, rfl⟩ := e1
  refine j_bif_eq X (tgt := 14) (q := 7) d_J_read_4 (by decide) rfl (fun h4 => ?_) (fun h4 => ?_)
  · have _b4 := True.intro
    exact absurd h4 (by rw [jin_nI (by omega), decide_eq_true ht]; exact Bool.noConfusion)
  · have _b4 := True.intro
    refine j_iload_n X (q := 8) d_J_read_7 rfl rfl ?_
    refine j_callS X (n := 1) d_J_read_8 (c_J_isItem hI (nI x) σ) wl185 wl186 wl36 wl187 (by decide +kernel) ⟨rfl, rfl⟩ (by decide) rfl rfl (Nat.le_of_ble_eq_true rfl) rfl (q := 11) rfl (fun r8 τ8 e8 => ?_)
    obtain ⟨rfl, rfl⟩ := e8
    refine j_bif_ne X (tgt := 22) (q := 14) d_J_read_11 (by decide) rfl (fun h11 => ?_) (fun h11 => ?_)
    · have _b11 := True.intro
      refine j_aload_n X (q := 23) d_J_read_22 rfl rfl ?_
      refine j_getR X (C := jR4) (T := jT4) (N := 4) (ci := 4) (j := 0) (q := 26) d_J_read_23 ju4 rfl rfl rfl (by decide) wl166 rfl (hC _ _ (by decide)) rfl ?_
      refine j_iload_n X (q := 27) d_J_read_26 rfl rfl ?_
      refine j_iload_n X (q := 28) d_J_read_27 rfl rfl ?_
      refine j_callV X (n := 2) (C := jR2) (T := jT2) (N := 12) d_J_read_28 (c_H_hasVersion hI (fun g r q => hC g r (jHJ q)) hw hs hx y) rfl rfl (hC _ _ (by decide)) wl446 wl447 wl448 wl37 wl449 (by decide +kernel) ⟨rfl, rfl⟩ (by decide) rfl rfl (Nat.le_of_ble_eq_true rfl) rfl (q := 31) rfl (fun r28 τ28 e28 => ?_)
      obtain ⟨rfl, rfl⟩ := e28
      refine j_bif_ne X (tgt := 42) (q := 34) d_J_read_31 (by decide) rfl (fun h31 => ?_) (fun h31 => ?_)
      · have _b31 := True.intro
        refine j_aload_n X (q := 43) d_J_read_42 rfl rfl ?_
        refine j_getR X (C := jR4) (T := jT4) (N := 4) (ci := 4) (j := 0) (q := 46) d_J_read_43 ju4 rfl rfl rfl (by decide) wl166 rfl (hC _ _ (by decide)) rfl ?_
        refine j_iload_n X (q := 47) d_J_read_46 rfl rfl ?_
        refine j_callV X (n := 1) (C := jR2) (T := jT2) (N := 12) d_J_read_47 (c_H_hasEnded hI (fun g r q => hC g r (jHJ q)) hw hs ht) rfl rfl (hC _ _ (by decide)) wl405 wl406 wl407 wl37 wl408 (by decide +kernel) ⟨rfl, rfl⟩ (by decide) rfl rfl (Nat.le_of_ble_eq_true rfl) rfl (q := 50) rfl (fun r47 τ47 e47 => ?_)
        obtain ⟨rfl, rfl⟩ := e47
        refine j_bif_eq X (tgt := 61) (q := 53) d_J_read_50 (by decide) rfl (fun h50 => ?_) (fun h50 => ?_)
        · have _b50 := True.intro
          refine j_aload_n X (q := 62) d_J_read_61 rfl rfl ?_
          refine j_getR X (C := jR4) (T := jT4) (N := 4) (ci := 4) (j := 0) (q := 65) d_J_read_62 ju4 rfl rfl rfl (by decide) wl166 rfl (hC _ _ (by decide)) rfl ?_
          refine j_getI X (C := jR2) (T := jT2) (N := 12) (ci := 2) (j := 8) (q := 68) d_J_read_65 ju2 rfl rfl rfl (by decide) wl94 rfl (hC _ _ (by decide)) rfl (jHs_R hs) ?_
          refine j_bipush X (v := (nI 60)) (q := 70) d_J_read_68 (by decide +kernel) rfl ?_
          refine j_ncmp_lt X (tgt := 81) (q := 73) d_J_read_70 (by decide) rfl (by omega) (by omega) (fun h70 => ?_) (fun h70 => ?_)
          · have _b70 := True.intro
            refine j_aload_n X (q := 82) d_J_read_81 rfl rfl ?_
            refine j_getR X (C := jR4) (T := jT4) (N := 4) (ci := 4) (j := 0) (q := 85) d_J_read_82 ju4 rfl rfl rfl (by decide) wl166 rfl (hC _ _ (by decide)) rfl ?_
            refine j_iload_n X (q := 86) d_J_read_85 rfl rfl ?_
            refine j_iload_n X (q := 87) d_J_read_86 rfl rfl ?_
            refine j_iload_n X (q := 88) d_J_read_87 rfl rfl ?_
            refine jxW.cast rfl (show _ = [.inl (vI (jyO y)), .inl (nI x), .inl (nI t), .inr (1, 0)] by rw [← hy]; rfl) rfl ?_
            refine j_callV X (n := 3) (C := jR2) (T := jT2) (N := 12) d_J_read_88 (c_H_addRead hI (fun g r q => hC g r (jHJ q)) hw hs (o := jyO y) ht hx (by omega)) rfl rfl (hC _ _ (by decide)) wl463 wl464 wl465 wl37 wl466 (by decide +kernel) ⟨rfl, rfl⟩ (by decide) rfl rfl (Nat.le_of_ble_eq_true rfl) rfl (q := 91) rfl (fun r88 τ88 e88 => ?_)
            obtain ⟨rfl, q1, q2⟩ := e88
            refine j_iret X d_J_read_91 ?_
            exact ⟨rfl, by rw [ca, cb]; exact q1, q2⟩
          · have _b70 := True.intro
            omega
        · have _b50 := True.intro
          exact absurd (of_decide_eq_true h50) hs1
      · have _b31 := True.intro
        rw [hs0] at h31; cases h31
    · have _b11 := True.intro
      exact absurd h11 (by rw [jin_nI (by omega), decide_eq_true hx]; exact Bool.noConfusion)
set_option maxRecDepth 100000 in
set_option maxHeartbeats 4000000 in
theorem c_J_read_T {l : Launch} {Θ : jxT} (hI : jxI Θ) (htr : l.stackTraces = false) (hC : ∀ g r, r < jrwJ g → Θ.2.2.2 g r) {h : jH} {σ : jxM} (hw : jHw h) (hs : jHs h σ) (a b y : Int32) {k : Nat} (hc : jrc h a b y = k) (hk : k ≠ 0) : jxThr l y_J_read b_J_read 4 (some FieldType.int) jrT Θ [.inr (0, 0), .inl a, .inl b, .inl y] σ (jxrE k) := by
  refine jxThr.of (own := "HistoryJudge") hI htr (by decide) rfl (Nat.le_of_ble_eq_true rfl) (fun Γ X Z => ?_)
  show jxWq Γ Θ (jxTP Γ Θ (jxrE k) σ) 0 [some (.inr (0, 0)), some (.inl a), some (.inl b), some (.inl y)] [] σ
  have bV := jHw_V hw
  have bR := jHw_R hw
  
  refine q_iload_n X (q := 1) d_J_read_0 rfl rfl ?_
  refine q_callS X (n := 1) d_J_read_1 (c_J_isTransaction hI a σ) wl178 wl179 wl36 wl180 (by decide +kernel) (jxTP_2 _ _ _ _ _) ⟨rfl, rfl⟩ (by decide) rfl rfl (Nat.le_of_ble_eq_true rfl) rfl (q := 4) rfl (fun r1 τ1 e1 => ?_)
  obtain ⟨rfl, rfl⟩ := e1
  refine q_bif_eq X (tgt := 14) (q := 7) d_J_read_4 (by decide) rfl (fun h4 => ?_) (fun h4 => ?_)
  · have _b4 := True.intro
    have ek : k = 1 := by rw [← hc]; unfold jrc; rw [if_neg (fun q => by rw [h4] at q; cases q.1)]
    subst ek
    exact q_throw X Z (E := "java/lang/IllegalArgumentException") (ic := 46) (by decide +kernel) wl363 wl364 wl46 d_J_read_14 d_J_read_17 d_J_read_18 d_J_read_21 (by decide) rfl
  · have _b4 := True.intro
    refine q_iload_n X (q := 8) d_J_read_7 rfl rfl ?_
    refine q_callS X (n := 1) d_J_read_8 (c_J_isItem hI b σ) wl185 wl186 wl36 wl187 (by decide +kernel) (jxTP_2 _ _ _ _ _) ⟨rfl, rfl⟩ (by decide) rfl rfl (Nat.le_of_ble_eq_true rfl) rfl (q := 11) rfl (fun r8 τ8 e8 => ?_)
    obtain ⟨rfl, rfl⟩ := e8
    refine q_bif_ne X (tgt := 22) (q := 14) d_J_read_11 (by decide) rfl (fun h11 => ?_) (fun h11 => ?_)
    · have _b11 := True.intro
      obtain ⟨t, ht, rfl⟩ := jin_of h4 (by decide)
      have ct : (nI t).toNatClampNeg = t := nI_clamp (by omega)
      obtain ⟨x, hx, rfl⟩ := jin_of h11 (by decide)
      have cx : (nI x).toNatClampNeg = x := nI_clamp (by omega)
      refine q_aload_n X (q := 23) d_J_read_22 rfl rfl ?_
      refine q_getR X (C := jR4) (T := jT4) (N := 4) (ci := 4) (j := 0) (q := 26) d_J_read_23 ju4 rfl rfl rfl (by decide) wl166 rfl (hC _ _ (by decide)) rfl ?_
      refine q_iload_n X (q := 27) d_J_read_26 rfl rfl ?_
      refine q_iload_n X (q := 28) d_J_read_27 rfl rfl ?_
      refine q_callV X (n := 2) (C := jR2) (T := jT2) (N := 12) d_J_read_28 (c_H_hasVersion hI (fun g r q => hC g r (jHJ q)) hw hs hx y) rfl rfl (hC _ _ (by decide)) wl446 wl447 wl448 wl37 wl449 (by decide +kernel) (jxTP_2 _ _ _ _ _) ⟨rfl, rfl⟩ (by decide) rfl rfl (Nat.le_of_ble_eq_true rfl) rfl (q := 31) rfl (fun r28 τ28 e28 => ?_)
      obtain ⟨rfl, rfl⟩ := e28
      refine q_bif_ne X (tgt := 42) (q := 34) d_J_read_31 (by decide) rfl (fun h31 => ?_) (fun h31 => ?_)
      · have _b31 := True.intro
        refine q_aload_n X (q := 43) d_J_read_42 rfl rfl ?_
        refine q_getR X (C := jR4) (T := jT4) (N := 4) (ci := 4) (j := 0) (q := 46) d_J_read_43 ju4 rfl rfl rfl (by decide) wl166 rfl (hC _ _ (by decide)) rfl ?_
        refine q_iload_n X (q := 47) d_J_read_46 rfl rfl ?_
        refine q_callV X (n := 1) (C := jR2) (T := jT2) (N := 12) d_J_read_47 (c_H_hasEnded hI (fun g r q => hC g r (jHJ q)) hw hs ht) rfl rfl (hC _ _ (by decide)) wl405 wl406 wl407 wl37 wl408 (by decide +kernel) (jxTP_2 _ _ _ _ _) ⟨rfl, rfl⟩ (by decide) rfl rfl (Nat.le_of_ble_eq_true rfl) rfl (q := 50) rfl (fun r47 τ47 e47 => ?_)
        obtain ⟨rfl, rfl⟩ := e47
        refine q_bif_eq X (tgt := 61) (q := 53) d_J_read_50 (by decide) rfl (fun h50 => ?_) (fun h50 => ?_)
        · have _b50 := True.intro
          refine q_aload_n X (q := 62) d_J_read_61 rfl rfl ?_
          refine q_getR X (C := jR4) (T := jT4) (N := 4) (ci := 4) (j := 0) (q := 65) d_J_read_62 ju4 rfl rfl rfl (by decide) wl166 rfl (hC _ _ (by decide)) rfl ?_
          refine q_getI X (C := jR2) (T := jT2) (N := 12) (ci := 2) (j := 8) (q := 68) d_J_read_65 ju2 rfl rfl rfl (by decide) wl94 rfl (hC _ _ (by decide)) rfl (jHs_R hs) ?_
          refine q_bipush X (v := (nI 60)) (q := 70) d_J_read_68 (by decide +kernel) rfl ?_
          refine q_ncmp_lt X (tgt := 81) (q := 73) d_J_read_70 (by decide) rfl (by omega) (by omega) (fun h70 => ?_) (fun h70 => ?_)
          · have _b70 := True.intro
            exact absurd hc.symm (by unfold jrc; rw [if_pos ⟨h4, h11⟩, ct, cx, if_pos h31, if_neg (of_decide_eq_false h50), if_neg (by omega)]; exact hk)
          · have _b70 := True.intro
            have ek : k = 4 := by rw [← hc]; unfold jrc; rw [if_pos ⟨h4, h11⟩, ct, cx, if_pos h31, if_neg (of_decide_eq_false h50), if_pos (by omega)]
            subst ek
            exact q_throw X Z (E := "java/lang/UnsupportedOperationException") (ic := 59) (by decide +kernel) wl422 wl423 wl48 d_J_read_73 d_J_read_76 d_J_read_77 d_J_read_80 (by decide) rfl
        · have _b50 := True.intro
          have ek : k = 3 := by rw [← hc]; unfold jrc; rw [if_pos ⟨h4, h11⟩, ct, cx, if_pos h31, if_pos (of_decide_eq_true h50)]
          subst ek
          exact q_throw X Z (E := "java/lang/IllegalStateException") (ic := 52) (by decide +kernel) wl409 wl410 wl47 d_J_read_53 d_J_read_56 d_J_read_57 d_J_read_60 (by decide) rfl
      · have _b31 := True.intro
        have ek : k = 2 := by rw [← hc]; unfold jrc; rw [if_pos ⟨h4, h11⟩, ct, cx, if_neg (by rw [h31]; exact Bool.false_ne_true)]
        subst ek
        exact q_throw X Z (E := "java/util/NoSuchElementException") (ic := 70) (by decide +kernel) wl450 wl451 wl49 d_J_read_34 d_J_read_37 d_J_read_38 d_J_read_41 (by decide) rfl
    · have _b11 := True.intro
      have ek : k = 1 := by rw [← hc]; unfold jrc; rw [if_neg (fun q => by rw [h11] at q; cases q.2)]
      subst ek
      exact q_throw X Z (E := "java/lang/IllegalArgumentException") (ic := 46) (by decide +kernel) wl363 wl364 wl46 d_J_read_14 d_J_read_17 d_J_read_18 d_J_read_21 (by decide) rfl
set_option maxRecDepth 100000 in
set_option maxHeartbeats 4000000 in
theorem c_J_end {l : Launch} {Θ : jxT} (hI : jxI Θ) (hC : ∀ g r, r < jrwJ g → Θ.2.2.2 g r) {h : jH} {σ : jxM} (hw : jHw h) (hs : jHs h σ) (a : Int32) (b : Bool) (hc : jec h a = 0) : jxMet l y_J_end b_J_end 3 none (jrm 3) Θ [.inr (0, 0), .inl a, .inl (jB b)] σ (fun r' σ' => r' = none ∧ (b = true → jHs (jcomP h a.toNatClampNeg 6) σ') ∧ (b = false → jHs (jend h a.toNatClampNeg 3) σ') ∧ ∀ g, 14 ≤ g → σ' g = σ g) := by
  refine jxMet.of (own := "HistoryJudge") hI (by decide) rfl (Nat.le_of_ble_eq_true rfl) (fun Γ X => ?_)
  show jxW Γ Θ (fun r' σ' => r' = none ∧ (b = true → jHs (jcomP h a.toNatClampNeg 6) σ') ∧ (b = false → jHs (jend h a.toNatClampNeg 3) σ') ∧ ∀ g, 14 ≤ g → σ' g = σ g) 0 [some (.inr (0, 0)), some (.inl a), some (.inl (jB b))] [] σ
  have bV := jHw_V hw
  have bR := jHw_R hw
  obtain ⟨t, ht, rfl, ca, hs1⟩ := jec_0 hc
  refine j_iload_n X (q := 1) d_J_end_0 rfl rfl ?_
  refine j_callS X (n := 1) d_J_end_1 (c_J_isTransaction hI (nI t) σ) wl178 wl179 wl36 wl180 (by decide +kernel) ⟨rfl, rfl⟩ (by decide) rfl rfl (Nat.le_of_ble_eq_true rfl) rfl (q := 4) rfl (fun r1 τ1 e1 => ?_)
  obtain ⟨rfl, rfl⟩ := e1
  refine j_bif_ne X (tgt := 15) (q := 7) d_J_end_4 (by decide) rfl (fun h4 => ?_) (fun h4 => ?_)
  · have _b4 := True.intro
    refine j_aload_n X (q := 16) d_J_end_15 rfl rfl ?_
    refine j_getR X (C := jR4) (T := jT4) (N := 4) (ci := 4) (j := 0) (q := 19) d_J_end_16 ju4 rfl rfl rfl (by decide) wl166 rfl (hC _ _ (by decide)) rfl ?_
    refine j_getR X (C := jR2) (T := jT2) (N := 12) (ci := 2) (j := 0) (q := 22) d_J_end_19 ju2 rfl rfl rfl (by decide) wl74 rfl (hC _ _ (by decide)) rfl ?_
    refine j_iload_n X (q := 23) d_J_end_22 rfl rfl ?_
    refine j_iald X (q := 24) d_J_end_23 rfl (by decide) rfl ht (hC _ _ (by decide)) rfl (jHs_S hs ht) ?_
    refine j_iconst X (v := (nI 1)) (q := 25) d_J_end_24 (by decide +kernel) rfl ?_
    refine j_ncmp_eq X (tgt := 36) (q := 28) d_J_end_25 (by decide) rfl (by omega) (by omega) (fun h25 => ?_) (fun h25 => ?_)
    · have _b25 := True.intro
      refine j_iload_n X (q := 37) d_J_end_36 rfl rfl ?_
      refine j_bif_eq X (tgt := 51) (q := 40) d_J_end_37 (by decide) rfl (fun h37 => ?_) (fun h37 => ?_)
      · have _b37 := True.intro
        refine j_aload_n X (q := 52) d_J_end_51 rfl rfl ?_
        refine j_getR X (C := jR4) (T := jT4) (N := 4) (ci := 4) (j := 0) (q := 55) d_J_end_52 ju4 rfl rfl rfl (by decide) wl166 rfl (hC _ _ (by decide)) rfl ?_
        refine j_getR X (C := jR2) (T := jT2) (N := 12) (ci := 2) (j := 0) (q := 58) d_J_end_55 ju2 rfl rfl rfl (by decide) wl74 rfl (hC _ _ (by decide)) rfl ?_
        refine j_iload_n X (q := 59) d_J_end_58 rfl rfl ?_
        refine j_iconst X (v := (nI 3)) (q := 60) d_J_end_59 (by decide +kernel) rfl ?_
        refine j_iast X (q := 61) d_J_end_60 rfl (by decide) rfl ht (hC _ _ (by decide)) rfl ?_
        refine j_vret X d_J_end_61 ?_
        exact ⟨rfl, fun q => (by rw [h37] at q; cases q), fun _ => (by rw [ca]; exact jHs_end hs), fun g hg => jxs_g _ _ _ _ _ (by omega)⟩
      · have _b37 := True.intro
        refine j_aload_n X (q := 41) d_J_end_40 rfl rfl ?_
        refine j_getR X (C := jR4) (T := jT4) (N := 4) (ci := 4) (j := 0) (q := 44) d_J_end_41 ju4 rfl rfl rfl (by decide) wl166 rfl (hC _ _ (by decide)) rfl ?_
        refine j_iload_n X (q := 45) d_J_end_44 rfl rfl ?_
        refine j_callV X (n := 1) (C := jR2) (T := jT2) (N := 12) d_J_end_45 (c_H_commit hI (fun g r q => hC g r (jHJ q)) hw hs ht (fun x hx _ => jon_lt hw ht (by omega) hx)) rfl rfl (hC _ _ (by decide)) wl473 wl474 wl475 wl37 wl476 (by decide +kernel) ⟨rfl, rfl⟩ (by decide) rfl rfl (Nat.le_of_ble_eq_true rfl) rfl (q := 48) rfl (fun r45 τ45 e45 => ?_)
        obtain ⟨rfl, q1, q2⟩ := e45
        refine j_goto X (tgt := 61) d_J_end_48 (by decide) ?_
        refine j_vret X d_J_end_61 ?_
        exact ⟨rfl, fun _ => (by rw [ca]; exact q1), fun q => (by rw [h37] at q; cases q), q2⟩
    · have _b25 := True.intro
      omega
  · have _b4 := True.intro
    exact absurd h4 (by rw [jin_nI (by omega), decide_eq_true ht]; exact Bool.noConfusion)
set_option maxRecDepth 100000 in
set_option maxHeartbeats 4000000 in
theorem c_J_end_T {l : Launch} {Θ : jxT} (hI : jxI Θ) (htr : l.stackTraces = false) (hC : ∀ g r, r < jrwJ g → Θ.2.2.2 g r) {h : jH} {σ : jxM} (hw : jHw h) (hs : jHs h σ) (a : Int32) (b : Bool) {k : Nat} (hc : jec h a = k) (hk : k ≠ 0) : jxThr l y_J_end b_J_end 3 none jrT Θ [.inr (0, 0), .inl a, .inl (jB b)] σ (jxeE k) := by
  refine jxThr.of (own := "HistoryJudge") hI htr (by decide) rfl (Nat.le_of_ble_eq_true rfl) (fun Γ X Z => ?_)
  show jxWq Γ Θ (jxTP Γ Θ (jxeE k) σ) 0 [some (.inr (0, 0)), some (.inl a), some (.inl (jB b))] [] σ
  have bV := jHw_V hw
  have bR := jHw_R hw
  
  refine q_iload_n X (q := 1) d_J_end_0 rfl rfl ?_
  refine q_callS X (n := 1) d_J_end_1 (c_J_isTransaction hI a σ) wl178 wl179 wl36 wl180 (by decide +kernel) (jxTP_2 _ _ _ _ _) ⟨rfl, rfl⟩ (by decide) rfl rfl (Nat.le_of_ble_eq_true rfl) rfl (q := 4) rfl (fun r1 τ1 e1 => ?_)
  obtain ⟨rfl, rfl⟩ := e1
  refine q_bif_ne X (tgt := 15) (q := 7) d_J_end_4 (by decide) rfl (fun h4 => ?_) (fun h4 => ?_)
  · have _b4 := True.intro
    obtain ⟨t, ht, rfl⟩ := jin_of h4 (by decide)
    have ct : (nI t).toNatClampNeg = t := nI_clamp (by omega)
    refine q_aload_n X (q := 16) d_J_end_15 rfl rfl ?_
    refine q_getR X (C := jR4) (T := jT4) (N := 4) (ci := 4) (j := 0) (q := 19) d_J_end_16 ju4 rfl rfl rfl (by decide) wl166 rfl (hC _ _ (by decide)) rfl ?_
    refine q_getR X (C := jR2) (T := jT2) (N := 12) (ci := 2) (j := 0) (q := 22) d_J_end_19 ju2 rfl rfl rfl (by decide) wl74 rfl (hC _ _ (by decide)) rfl ?_
    refine q_iload_n X (q := 23) d_J_end_22 rfl rfl ?_
    refine q_iald X (q := 24) d_J_end_23 rfl (by decide) rfl ht (hC _ _ (by decide)) rfl (jHs_S hs ht) ?_
    refine q_iconst X (v := (nI 1)) (q := 25) d_J_end_24 (by decide +kernel) rfl ?_
    refine q_ncmp_eq X (tgt := 36) (q := 28) d_J_end_25 (by decide) rfl (by have := jHw_S hw ht; omega) (by omega) (fun h25 => ?_) (fun h25 => ?_)
    · have _b25 := True.intro
      exact absurd hc.symm (by unfold jec; rw [if_pos h4, ct, if_pos h25]; exact hk)
    · have _b25 := True.intro
      have ek : k = 2 := by rw [← hc]; unfold jec; rw [if_pos h4, ct, if_neg h25]
      subst ek
      exact q_throw X Z (E := "java/lang/IllegalStateException") (ic := 52) (by decide +kernel) wl409 wl410 wl47 d_J_end_28 d_J_end_31 d_J_end_32 d_J_end_35 (by decide) rfl
  · have _b4 := True.intro
    have ek : k = 1 := by rw [← hc]; unfold jec; rw [if_neg (by rw [h4]; exact Bool.false_ne_true)]
    subst ek
    exact q_throw X Z (E := "java/lang/IllegalArgumentException") (ic := 46) (by decide +kernel) wl363 wl364 wl46 d_J_end_7 d_J_end_10 d_J_end_11 d_J_end_14 (by decide) rfl
