/-! The constructors. -/
def jrwG : Nat → Nat := fun g => match g with
  | 20 => 1
  | 21 => 1
  | 22 => 1
  | 23 => 1
  | _ => 0
def jrwC : Nat → Nat := fun g => match g with
  | 24 => 1
  | 25 => 1
  | 26 => 1
  | 27 => 1
  | 28 => 1
  | 29 => 1
  | _ => 0
def jrwS : Nat → Nat := fun g => match g with
  | 30 => 1
  | 31 => 1
  | 32 => 1
  | 33 => 8
  | 34 => 1
  | _ => 0
def jtG : List (Nat × Nat) := [(21, 0), (22, 0), (23, 0)]
def jrmG : Room := { frames := 1, cells := 3, slots := 24, locals := 20 }
def jfG : List Value := [.null, .null, .null]
theorem jtG_cov : ∀ g r, r < jrwG g → (g, r) = (20, 0) ∨ (g, r) ∈ jtG := by
  intro g r h
  unfold jrwG at h
  split at h <;> (rcases (by omega : r = 0 ∨ r = 1 ∨ r = 2 ∨ r = 3 ∨ r = 4 ∨ r = 5 ∨ r = 6 ∨ r = 7) with rfl | rfl | rfl | rfl | rfl | rfl | rfl | rfl <;> first | (exfalso; omega) | decide)
theorem jtG_in : ∀ q ∈ jtG, q.2 < jrwG q.1 := by decide
def jtC : List (Nat × Nat) := [(25, 0), (26, 0), (27, 0), (28, 0), (29, 0)]
def jrmC : Room := { frames := 1, cells := 5, slots := 42, locals := 20 }
def jfC : List Value := [.null, .null, .null, .null, .null]
theorem jtC_cov : ∀ g r, r < jrwC g → (g, r) = (24, 0) ∨ (g, r) ∈ jtC := by
  intro g r h
  unfold jrwC at h
  split at h <;> (rcases (by omega : r = 0 ∨ r = 1 ∨ r = 2 ∨ r = 3 ∨ r = 4 ∨ r = 5 ∨ r = 6 ∨ r = 7) with rfl | rfl | rfl | rfl | rfl | rfl | rfl | rfl <;> first | (exfalso; omega) | decide)
theorem jtC_in : ∀ q ∈ jtC, q.2 < jrwC q.1 := by decide
def jtS : List (Nat × Nat) := [(31, 0), (32, 0), (33, 0), (33, 1), (33, 2), (33, 3), (33, 4), (33, 5), (33, 6), (33, 7), (34, 0)]
def jrmS : Room := { frames := 1, cells := 11, slots := 336, locals := 20 }
def jfS : List Value := [.null, .null, .null, .int 0, .int 0]
theorem jtS_cov : ∀ g r, r < jrwS g → (g, r) = (30, 0) ∨ (g, r) ∈ jtS := by
  intro g r h
  unfold jrwS at h
  split at h <;> (rcases (by omega : r = 0 ∨ r = 1 ∨ r = 2 ∨ r = 3 ∨ r = 4 ∨ r = 5 ∨ r = 6 ∨ r = 7) with rfl | rfl | rfl | rfl | rfl | rfl | rfl | rfl <;> first | (exfalso; omega) | decide)
theorem jtS_in : ∀ q ∈ jtS, q.2 < jrwS q.1 := by decide
def jtH : List (Nat × Nat) := [(2, 0), (3, 0), (4, 0), (5, 0), (6, 0), (7, 0), (8, 0), (9, 0), (10, 0), (10, 1), (10, 2), (10, 3), (10, 4), (10, 5), (10, 6), (10, 7), (11, 0), (12, 0), (12, 1), (12, 2), (12, 3), (12, 4), (12, 5), (13, 0)]
def jrmH : Room := { frames := 4, cells := 24, slots := 444, locals := 120 }
def jfH : List Value := [.null, .null, .null, .int 0, .null, .null, .null, .null, .int 0, .null, .null, .null]
theorem jtH_cov : ∀ g r, r < jrwH g → (g, r) = (1, 0) ∨ (g, r) ∈ jtH := by
  intro g r h
  unfold jrwH at h
  split at h <;> (rcases (by omega : r = 0 ∨ r = 1 ∨ r = 2 ∨ r = 3 ∨ r = 4 ∨ r = 5 ∨ r = 6 ∨ r = 7) with rfl | rfl | rfl | rfl | rfl | rfl | rfl | rfl <;> first | (exfalso; omega) | decide)
theorem jtH_in : ∀ q ∈ jtH, q.2 < jrwH q.1 := by decide
def jtM : List (Nat × Nat) := [(41, 0), (42, 0), (43, 0), (44, 0), (45, 0), (46, 0), (47, 0), (48, 0), (49, 0), (50, 0), (51, 0), (52, 0), (53, 0)]
def jrmM : Room := { frames := 1, cells := 13, slots := 678, locals := 20 }
def jfM : List Value := [.int 0, .null, .int 0, .null, .null, .int 0, .int 0, .null, .null, .null, .null, .null, .null, .null, .null, .null, .int 0, .null]
theorem jtM_cov : ∀ g r, r < jrwM g → (g, r) = (40, 0) ∨ (g, r) ∈ jtM := by
  intro g r h
  unfold jrwM at h
  split at h <;> (rcases (by omega : r = 0 ∨ r = 1 ∨ r = 2 ∨ r = 3 ∨ r = 4 ∨ r = 5 ∨ r = 6 ∨ r = 7) with rfl | rfl | rfl | rfl | rfl | rfl | rfl | rfl <;> first | (exfalso; omega) | decide)
theorem jtM_in : ∀ q ∈ jtM, q.2 < jrwM q.1 := by decide
def jtJ : List (Nat × Nat) := [(1, 0), (2, 0), (3, 0), (4, 0), (5, 0), (6, 0), (7, 0), (8, 0), (9, 0), (10, 0), (10, 1), (10, 2), (10, 3), (10, 4), (10, 5), (10, 6), (10, 7), (11, 0), (12, 0), (12, 1), (12, 2), (12, 3), (12, 4), (12, 5), (13, 0), (20, 0), (21, 0), (22, 0), (23, 0), (24, 0), (25, 0), (26, 0), (27, 0), (28, 0), (29, 0), (30, 0), (31, 0), (32, 0), (33, 0), (33, 1), (33, 2), (33, 3), (33, 4), (33, 5), (33, 6), (33, 7), (34, 0)]
def jrmJ : Room := { frames := 5, cells := 47, slots := 871, locals := 160 }
def jfJ : List Value := [.null, .null, .null, .null]
theorem jtJ_cov : ∀ g r, r < jrwJ g → (g, r) = (0, 0) ∨ (g, r) ∈ jtJ := by
  intro g r h
  unfold jrwJ at h
  split at h <;> (rcases (by omega : r = 0 ∨ r = 1 ∨ r = 2 ∨ r = 3 ∨ r = 4 ∨ r = 5 ∨ r = 6 ∨ r = 7) with rfl | rfl | rfl | rfl | rfl | rfl | rfl | rfl <;> first | (exfalso; omega) | decide)
theorem jtJ_in : ∀ q ∈ jtJ, q.2 < jrwJ q.1 := by decide
theorem jcov_of {rw0 : Nat → Nat} {g0 : Nat} {t pr : List (Nat × Nat)} (hcov : ∀ g r, r < rw0 g → (g, r) = (g0, 0) ∨ (g, r) ∈ t) (hs : ∀ q ∈ t, q ∈ pr) : ∀ g r, r < rw0 g → (g, r) = (g0, 0) ∨ (g, r) ∈ pr := fun g r h => (hcov g r h).imp id (fun z => hs _ z)
theorem jI_of {Θ : jxT} {rw0 : Nat → Nat} {g0 sz : Nat} {t : List (Nat × Nat)} (ha : Θ.2.2.1 g0 0 < sz) (had : ∀ i q, t[i]? = some q → Θ.2.2.1 q.1 q.2 = sz + i) (hcov : ∀ g r, r < rw0 g → (g, r) = (g0, 0) ∨ (g, r) ∈ t) : jxI (jxRw Θ rw0) := by
  intro g r g' r' h h' e
  have e : Θ.2.2.1 g r = Θ.2.2.1 g' r' := e
  rcases hcov g r h with z | z <;> rcases hcov g' r' h' with z' | z'
  · exact ⟨(congrArg Prod.fst z).trans (congrArg Prod.fst z').symm, (congrArg Prod.snd z).trans (congrArg Prod.snd z').symm⟩
  · obtain ⟨i, hi⟩ := List.getElem?_of_mem z'
    have q1 : g = g0 := congrArg Prod.fst z
    have q2 : r = 0 := congrArg Prod.snd z
    have := had i _ hi
    subst q1; subst q2
    have this : Θ.2.2.1 g' r' = sz + i := this
    omega
  · obtain ⟨i, hi⟩ := List.getElem?_of_mem z
    have q1 : g' = g0 := congrArg Prod.fst z'
    have q2 : r' = 0 := congrArg Prod.snd z'
    have := had i _ hi
    subst q1; subst q2
    have this : Θ.2.2.1 g r = sz + i := this
    omega
  · obtain ⟨i, hi⟩ := List.getElem?_of_mem z
    obtain ⟨j, hj⟩ := List.getElem?_of_mem z'
    have a1 : Θ.2.2.1 g r = sz + i := had i _ hi
    have a2 : Θ.2.2.1 g' r' = sz + j := had j _ hj
    have : i = j := by omega
    subst this
    rw [hi] at hj
    have := Option.some.inj hj
    exact ⟨congrArg Prod.fst this, congrArg Prod.snd this⟩
theorem jge_of {Θ : jxT} {sz : Nat} {t : List (Nat × Nat)} (had : ∀ i q, t[i]? = some q → Θ.2.2.1 q.1 q.2 = sz + i) {q : Nat × Nat} (h : q ∈ t) : sz ≤ Θ.2.2.1 q.1 q.2 := by
  obtain ⟨i, hi⟩ := List.getElem?_of_mem h
  rw [had i q hi]; omega
theorem jad_sub {Θ : jxT} {sz k g : Nat} {t t' : List (Nat × Nat)} (had : ∀ i q, t[i]? = some q → Θ.2.2.1 q.1 q.2 = sz + i) (h0 : t[k]? = some (g, 0)) (hs : ∀ i, i < t'.length → t[k + 1 + i]? = t'[i]?) : ∀ i q, t'[i]? = some q → Θ.2.2.1 q.1 q.2 = Θ.2.2.1 g 0 + 1 + i := by
  intro i q hq
  have h1 : Θ.2.2.1 g 0 = sz + k := had k _ h0
  rw [had (k + 1 + i) q (by rw [hs i (List.getElem?_eq_some_iff.mp hq).1]; exact hq), h1]
  omega
theorem jHs_rw {h : jH} {σ σ' : jxM} (e : ∀ g, 0 < jrwH g → σ' g = σ g) (k : jHs h σ) : jHs h σ' := by
  unfold jHs
  rw [e 1 (by decide), e 2 (by decide), e 3 (by decide), e 4 (by decide), e 5 (by decide), e 6 (by decide), e 7 (by decide), e 8 (by decide), e 10 (by decide), e 12 (by decide), e 13 (by decide)]
  exact k
set_option maxRecDepth 100000 in
set_option maxHeartbeats 4000000 in
theorem c_G_init {l : Launch} {Θ : jxT} {sz : Nat} (ha : Θ.2.2.1 20 0 < sz) (had : ∀ i q, jtG[i]? = some q → Θ.2.2.1 q.1 q.2 = sz + i) : jxNew l y_G_init b_G_init jrmG Θ 1 jfG jrwG 3 24 (Θ.2.2.1 20 0) sz (fun σ => σ = fun _ _ _ => 0) := by
  refine jxNew.of (own := "HistoryJudge$Graph") (by decide) rfl rfl ha (fun Γ X hsz => ?_)
  refine n_load X (q := 1) d_G_init_0 rfl ?_
  refine n_obj X (q := 4) d_G_init_1 wl120 wl57 wl58 (by decide) rfl ?_
  refine n_load X (q := 5) d_G_init_4 rfl ?_
  refine n_bipush X (v := nI 8) (q := 7) d_G_init_5 (by decide +kernel) rfl ?_
  refine n_newa X (g := 21) (t := 0) (N := 8) (q := 9) d_G_init_7 rfl (fun _ => rfl) (fun _ => rfl) rfl wl115 (fun _ _ h => h) (by rw [hsz]; exact had 0 (21, 0) rfl) rfl (by decide +kernel) (by decide +kernel) (by decide) (by decide) rfl ?_
  refine n_put X (C := jR1) (T := jT1) (N := 3) (j := 0) (q := 12) d_G_init_9 ju1 rfl jt1 jt1_ok jn1 (by decide) wl121 rfl rfl rfl rfl rfl (Nat.le_of_ble_eq_true rfl) rfl ?_
  refine n_load X (q := 13) d_G_init_12 rfl ?_
  refine n_bipush X (v := nI 8) (q := 15) d_G_init_13 (by decide +kernel) rfl ?_
  refine n_newa X (g := 22) (t := 0) (N := 8) (q := 17) d_G_init_15 rfl (fun _ => rfl) (fun _ => rfl) rfl wl115 (fun _ _ h => h) (by rw [hsz]; exact had 1 (22, 0) rfl) rfl (by decide +kernel) (by decide +kernel) (by decide) (by decide) rfl ?_
  refine n_put X (C := jR1) (T := jT1) (N := 3) (j := 1) (q := 20) d_G_init_17 ju1 rfl jt1 jt1_ok jn1 (by decide) wl124 rfl rfl rfl rfl rfl (Nat.le_of_ble_eq_true rfl) rfl ?_
  refine n_load X (q := 21) d_G_init_20 rfl ?_
  refine n_bipush X (v := nI 8) (q := 23) d_G_init_21 (by decide +kernel) rfl ?_
  refine n_newa X (g := 23) (t := 0) (N := 8) (q := 25) d_G_init_23 rfl (fun _ => rfl) (fun _ => rfl) rfl wl115 (fun _ _ h => h) (by rw [hsz]; exact had 2 (23, 0) rfl) rfl (by decide +kernel) (by decide +kernel) (by decide) (by decide) rfl ?_
  refine n_put X (C := jR1) (T := jT1) (N := 3) (j := 2) (q := 28) d_G_init_25 ju1 rfl jt1 jt1_ok jn1 (by decide) wl127 rfl rfl rfl rfl rfl (Nat.le_of_ble_eq_true rfl) rfl ?_
  exact n_ret X (g0 := 20) d_G_init_28 rfl rfl rfl (jcov_of jtG_cov (by decide))
set_option maxRecDepth 100000 in
set_option maxHeartbeats 4000000 in
theorem c_C_init {l : Launch} {Θ : jxT} {sz : Nat} (ha : Θ.2.2.1 24 0 < sz) (had : ∀ i q, jtC[i]? = some q → Θ.2.2.1 q.1 q.2 = sz + i) : jxNew l y_C_init b_C_init jrmC Θ 0 jfC jrwC 5 42 (Θ.2.2.1 24 0) sz (fun σ => σ = fun _ _ _ => 0) := by
  refine jxNew.of (own := "HistoryJudge$CycleSearch") (by decide) rfl rfl ha (fun Γ X hsz => ?_)
  refine n_load X (q := 1) d_C_init_0 rfl ?_
  refine n_obj X (q := 4) d_C_init_1 wl137 wl57 wl58 (by decide) rfl ?_
  refine n_load X (q := 5) d_C_init_4 rfl ?_
  refine n_bipush X (v := nI 8) (q := 7) d_C_init_5 (by decide +kernel) rfl ?_
  refine n_newa X (g := 25) (t := 0) (N := 8) (q := 9) d_C_init_7 rfl (fun _ => rfl) (fun _ => rfl) rfl wl115 (fun _ _ h => h) (by rw [hsz]; exact had 0 (25, 0) rfl) rfl (by decide +kernel) (by decide +kernel) (by decide) (by decide) rfl ?_
  refine n_put X (C := jR0) (T := jT0) (N := 5) (j := 0) (q := 12) d_C_init_9 ju0 rfl jt0 jt0_ok jn0 (by decide) wl138 rfl rfl rfl rfl rfl (Nat.le_of_ble_eq_true rfl) rfl ?_
  refine n_load X (q := 13) d_C_init_12 rfl ?_
  refine n_bipush X (v := nI 8) (q := 15) d_C_init_13 (by decide +kernel) rfl ?_
  refine n_newa X (g := 26) (t := 0) (N := 8) (q := 17) d_C_init_15 rfl (fun _ => rfl) (fun _ => rfl) rfl wl115 (fun _ _ h => h) (by rw [hsz]; exact had 1 (26, 0) rfl) rfl (by decide +kernel) (by decide +kernel) (by decide) (by decide) rfl ?_
  refine n_put X (C := jR0) (T := jT0) (N := 5) (j := 1) (q := 20) d_C_init_17 ju0 rfl jt0 jt0_ok jn0 (by decide) wl139 rfl rfl rfl rfl rfl (Nat.le_of_ble_eq_true rfl) rfl ?_
  refine n_load X (q := 21) d_C_init_20 rfl ?_
  refine n_bipush X (v := nI 9) (q := 23) d_C_init_21 (by decide +kernel) rfl ?_
  refine n_newa X (g := 27) (t := 0) (N := 9) (q := 25) d_C_init_23 rfl (fun _ => rfl) (fun _ => rfl) rfl wl115 (fun _ _ h => h) (by rw [hsz]; exact had 2 (27, 0) rfl) rfl (by decide +kernel) (by decide +kernel) (by decide) (by decide) rfl ?_
  refine n_put X (C := jR0) (T := jT0) (N := 5) (j := 2) (q := 28) d_C_init_25 ju0 rfl jt0 jt0_ok jn0 (by decide) wl140 rfl rfl rfl rfl rfl (Nat.le_of_ble_eq_true rfl) rfl ?_
  refine n_load X (q := 29) d_C_init_28 rfl ?_
  refine n_bipush X (v := nI 9) (q := 31) d_C_init_29 (by decide +kernel) rfl ?_
  refine n_newa X (g := 28) (t := 0) (N := 9) (q := 33) d_C_init_31 rfl (fun _ => rfl) (fun _ => rfl) rfl wl115 (fun _ _ h => h) (by rw [hsz]; exact had 3 (28, 0) rfl) rfl (by decide +kernel) (by decide +kernel) (by decide) (by decide) rfl ?_
  refine n_put X (C := jR0) (T := jT0) (N := 5) (j := 3) (q := 36) d_C_init_33 ju0 rfl jt0 jt0_ok jn0 (by decide) wl141 rfl rfl rfl rfl rfl (Nat.le_of_ble_eq_true rfl) rfl ?_
  refine n_load X (q := 37) d_C_init_36 rfl ?_
  refine n_bipush X (v := nI 8) (q := 39) d_C_init_37 (by decide +kernel) rfl ?_
  refine n_newa X (g := 29) (t := 0) (N := 8) (q := 41) d_C_init_39 rfl (fun _ => rfl) (fun _ => rfl) rfl wl115 (fun _ _ h => h) (by rw [hsz]; exact had 4 (29, 0) rfl) rfl (by decide +kernel) (by decide +kernel) (by decide) (by decide) rfl ?_
  refine n_put X (C := jR0) (T := jT0) (N := 5) (j := 4) (q := 44) d_C_init_41 ju0 rfl jt0 jt0_ok jn0 (by decide) wl142 rfl rfl rfl rfl rfl (Nat.le_of_ble_eq_true rfl) rfl ?_
  exact n_ret X (g0 := 24) d_C_init_44 rfl rfl rfl (jcov_of jtC_cov (by decide))
set_option maxRecDepth 100000 in
set_option maxHeartbeats 4000000 in
theorem c_S_init {l : Launch} {Θ : jxT} {sz : Nat} (ha : Θ.2.2.1 30 0 < sz) (had : ∀ i q, jtS[i]? = some q → Θ.2.2.1 q.1 q.2 = sz + i) : jxNew l y_S_init b_S_init jrmS Θ 3 jfS jrwS 11 336 (Θ.2.2.1 30 0) sz (fun σ => σ = fun _ _ _ => 0) := by
  refine jxNew.of (own := "HistoryJudge$SerialSearch") (by decide) rfl rfl ha (fun Γ X hsz => ?_)
  refine n_load X (q := 1) d_S_init_0 rfl ?_
  refine n_obj X (q := 4) d_S_init_1 wl153 wl57 wl58 (by decide) rfl ?_
  refine n_load X (q := 5) d_S_init_4 rfl ?_
  refine n_bipush X (v := nI 8) (q := 7) d_S_init_5 (by decide +kernel) rfl ?_
  refine n_newa X (g := 31) (t := 0) (N := 8) (q := 9) d_S_init_7 rfl (fun _ => rfl) (fun _ => rfl) rfl wl115 (fun _ _ h => h) (by rw [hsz]; exact had 0 (31, 0) rfl) rfl (by decide +kernel) (by decide +kernel) (by decide) (by decide) rfl ?_
  refine n_put X (C := jR3) (T := jT3) (N := 5) (j := 0) (q := 12) d_S_init_9 ju3 rfl jt3 jt3_ok jn3 (by decide) wl155 rfl rfl rfl rfl rfl (Nat.le_of_ble_eq_true rfl) rfl ?_
  refine n_load X (q := 13) d_S_init_12 rfl ?_
  refine n_bipush X (v := nI 8) (q := 15) d_S_init_13 (by decide +kernel) rfl ?_
  refine n_bipush X (v := nI 8) (q := 17) d_S_init_15 (by decide +kernel) rfl ?_
  refine n_mna X (g := 32) (g' := 33) (N := 8) (M := 8) (q := 21) d_S_init_17 rfl rfl wl154 wl115 (by rw [hsz]; exact had 1 (32, 0) rfl) (fun i hi => ?_) (fun _ _ => rfl) (by decide +kernel) (by decide +kernel) (by decide +kernel) (by decide +kernel) (by decide) (by decide) (by decide) rfl ?_
  · rw [hsz]
    rcases (by omega : i = 0 ∨ i = 1 ∨ i = 2 ∨ i = 3 ∨ i = 4 ∨ i = 5 ∨ i = 6 ∨ i = 7) with rfl | rfl | rfl | rfl | rfl | rfl | rfl | rfl
    · exact had 2 (33, 0) rfl
    · exact had 3 (33, 1) rfl
    · exact had 4 (33, 2) rfl
    · exact had 5 (33, 3) rfl
    · exact had 6 (33, 4) rfl
    · exact had 7 (33, 5) rfl
    · exact had 8 (33, 6) rfl
    · exact had 9 (33, 7) rfl
  refine n_put X (C := jR3) (T := jT3) (N := 5) (j := 1) (q := 24) d_S_init_21 ju3 rfl jt3 jt3_ok jn3 (by decide) wl156 rfl rfl rfl rfl rfl (Nat.le_of_ble_eq_true rfl) rfl ?_
  refine n_load X (q := 25) d_S_init_24 rfl ?_
  refine n_sipush X (v := nI 256) (q := 28) d_S_init_25 (by decide +kernel) rfl ?_
  refine n_newa X (g := 34) (t := 0) (N := 256) (q := 30) d_S_init_28 rfl (fun _ => rfl) (fun _ => rfl) rfl wl115 (fun _ _ h => h) (by rw [hsz]; exact had 10 (34, 0) rfl) rfl (by decide +kernel) (by decide +kernel) (by decide) (by decide) rfl ?_
  refine n_put X (C := jR3) (T := jT3) (N := 5) (j := 2) (q := 33) d_S_init_30 ju3 rfl jt3 jt3_ok jn3 (by decide) wl157 rfl rfl rfl rfl rfl (Nat.le_of_ble_eq_true rfl) rfl ?_
  exact n_ret X (g0 := 30) d_S_init_33 rfl rfl rfl (jcov_of jtS_cov (by decide))
set_option maxRecDepth 100000 in
set_option maxHeartbeats 4000000 in
theorem c_H_init {l : Launch} {Θ : jxT} {sz : Nat} (ha : Θ.2.2.1 1 0 < sz) (had : ∀ i q, jtH[i]? = some q → Θ.2.2.1 q.1 q.2 = sz + i) : jxNew l y_H_init b_H_init jrmH Θ 2 jfH jrwH 24 444 (Θ.2.2.1 1 0) sz (jHs jh0) := by
  refine jxNew.of (own := "HistoryJudge$History") (by decide) rfl rfl ha (fun Γ X hsz => ?_)
  refine n_load X (q := 1) d_H_init_0 rfl ?_
  refine n_obj X (q := 4) d_H_init_1 wl64 wl57 wl58 (by decide) rfl ?_
  refine n_load X (q := 5) d_H_init_4 rfl ?_
  refine n_bipush X (v := nI 8) (q := 7) d_H_init_5 (by decide +kernel) rfl ?_
  refine n_newa X (g := 2) (t := 0) (N := 8) (q := 9) d_H_init_7 rfl (fun _ => rfl) (fun _ => rfl) rfl wl115 (fun _ _ h => h) (by rw [hsz]; exact had 0 (2, 0) rfl) rfl (by decide +kernel) (by decide +kernel) (by decide) (by decide) rfl ?_
  refine n_put X (C := jR2) (T := jT2) (N := 12) (j := 0) (q := 12) d_H_init_9 ju2 rfl jt2 jt2_ok jn2 (by decide) wl73 rfl rfl rfl rfl rfl (Nat.le_of_ble_eq_true rfl) rfl ?_
  refine n_load X (q := 13) d_H_init_12 rfl ?_
  refine n_bipush X (v := nI 40) (q := 15) d_H_init_13 (by decide +kernel) rfl ?_
  refine n_newa X (g := 3) (t := 0) (N := 40) (q := 17) d_H_init_15 rfl (fun _ => rfl) (fun _ => rfl) rfl wl115 (fun _ _ h => h) (by rw [hsz]; exact had 1 (3, 0) rfl) rfl (by decide +kernel) (by decide +kernel) (by decide) (by decide) rfl ?_
  refine n_put X (C := jR2) (T := jT2) (N := 12) (j := 1) (q := 20) d_H_init_17 ju2 rfl jt2 jt2_ok jn2 (by decide) wl75 rfl rfl rfl rfl rfl (Nat.le_of_ble_eq_true rfl) rfl ?_
  refine n_load X (q := 21) d_H_init_20 rfl ?_
  refine n_bipush X (v := nI 40) (q := 23) d_H_init_21 (by decide +kernel) rfl ?_
  refine n_newa X (g := 4) (t := 0) (N := 40) (q := 25) d_H_init_23 rfl (fun _ => rfl) (fun _ => rfl) rfl wl115 (fun _ _ h => h) (by rw [hsz]; exact had 2 (4, 0) rfl) rfl (by decide +kernel) (by decide +kernel) (by decide) (by decide) rfl ?_
  refine n_put X (C := jR2) (T := jT2) (N := 12) (j := 2) (q := 28) d_H_init_25 ju2 rfl jt2 jt2_ok jn2 (by decide) wl78 rfl rfl rfl rfl rfl (Nat.le_of_ble_eq_true rfl) rfl ?_
  refine n_load X (q := 29) d_H_init_28 rfl ?_
  refine n_bipush X (v := nI 60) (q := 31) d_H_init_29 (by decide +kernel) rfl ?_
  refine n_newa X (g := 5) (t := 0) (N := 60) (q := 33) d_H_init_31 rfl (fun _ => rfl) (fun _ => rfl) rfl wl115 (fun _ _ h => h) (by rw [hsz]; exact had 3 (5, 0) rfl) rfl (by decide +kernel) (by decide +kernel) (by decide) (by decide) rfl ?_
  refine n_put X (C := jR2) (T := jT2) (N := 12) (j := 4) (q := 36) d_H_init_33 ju2 rfl jt2 jt2_ok jn2 (by decide) wl81 rfl rfl rfl rfl rfl (Nat.le_of_ble_eq_true rfl) rfl ?_
  refine n_load X (q := 37) d_H_init_36 rfl ?_
  refine n_bipush X (v := nI 60) (q := 39) d_H_init_37 (by decide +kernel) rfl ?_
  refine n_newa X (g := 6) (t := 0) (N := 60) (q := 41) d_H_init_39 rfl (fun _ => rfl) (fun _ => rfl) rfl wl115 (fun _ _ h => h) (by rw [hsz]; exact had 4 (6, 0) rfl) rfl (by decide +kernel) (by decide +kernel) (by decide) (by decide) rfl ?_
  refine n_put X (C := jR2) (T := jT2) (N := 12) (j := 5) (q := 44) d_H_init_41 ju2 rfl jt2 jt2_ok jn2 (by decide) wl84 rfl rfl rfl rfl rfl (Nat.le_of_ble_eq_true rfl) rfl ?_
  refine n_load X (q := 45) d_H_init_44 rfl ?_
  refine n_bipush X (v := nI 60) (q := 47) d_H_init_45 (by decide +kernel) rfl ?_
  refine n_newa X (g := 7) (t := 0) (N := 60) (q := 49) d_H_init_47 rfl (fun _ => rfl) (fun _ => rfl) rfl wl115 (fun _ _ h => h) (by rw [hsz]; exact had 5 (7, 0) rfl) rfl (by decide +kernel) (by decide +kernel) (by decide) (by decide) rfl ?_
  refine n_put X (C := jR2) (T := jT2) (N := 12) (j := 6) (q := 52) d_H_init_49 ju2 rfl jt2 jt2_ok jn2 (by decide) wl87 rfl rfl rfl rfl rfl (Nat.le_of_ble_eq_true rfl) rfl ?_
  refine n_load X (q := 53) d_H_init_52 rfl ?_
  refine n_bipush X (v := nI 60) (q := 55) d_H_init_53 (by decide +kernel) rfl ?_
  refine n_newa X (g := 8) (t := 0) (N := 60) (q := 57) d_H_init_55 rfl (fun _ => rfl) (fun _ => rfl) rfl wl115 (fun _ _ h => h) (by rw [hsz]; exact had 6 (8, 0) rfl) rfl (by decide +kernel) (by decide +kernel) (by decide) (by decide) rfl ?_
  refine n_put X (C := jR2) (T := jT2) (N := 12) (j := 7) (q := 60) d_H_init_57 ju2 rfl jt2 jt2_ok jn2 (by decide) wl90 rfl rfl rfl rfl rfl (Nat.le_of_ble_eq_true rfl) rfl ?_
  refine n_load X (q := 61) d_H_init_60 rfl ?_
  refine n_bipush X (v := nI 8) (q := 63) d_H_init_61 (by decide +kernel) rfl ?_
  refine n_bipush X (v := nI 6) (q := 65) d_H_init_63 (by decide +kernel) rfl ?_
  refine n_mna X (g := 9) (g' := 10) (N := 8) (M := 6) (q := 69) d_H_init_65 rfl rfl wl65 wl115 (by rw [hsz]; exact had 7 (9, 0) rfl) (fun i hi => ?_) (fun _ _ => rfl) (by decide +kernel) (by decide +kernel) (by decide +kernel) (by decide +kernel) (by decide) (by decide) (by decide) rfl ?_
  · rw [hsz]
    rcases (by omega : i = 0 ∨ i = 1 ∨ i = 2 ∨ i = 3 ∨ i = 4 ∨ i = 5 ∨ i = 6 ∨ i = 7) with rfl | rfl | rfl | rfl | rfl | rfl | rfl | rfl
    · exact had 8 (10, 0) rfl
    · exact had 9 (10, 1) rfl
    · exact had 10 (10, 2) rfl
    · exact had 11 (10, 3) rfl
    · exact had 12 (10, 4) rfl
    · exact had 13 (10, 5) rfl
    · exact had 14 (10, 6) rfl
    · exact had 15 (10, 7) rfl
  refine n_put X (C := jR2) (T := jT2) (N := 12) (j := 9) (q := 72) d_H_init_69 ju2 rfl jt2 jt2_ok jn2 (by decide) wl96 rfl rfl rfl rfl rfl (Nat.le_of_ble_eq_true rfl) rfl ?_
  refine n_load X (q := 73) d_H_init_72 rfl ?_
  refine n_bipush X (v := nI 6) (q := 75) d_H_init_73 (by decide +kernel) rfl ?_
  refine n_bipush X (v := nI 8) (q := 77) d_H_init_75 (by decide +kernel) rfl ?_
  refine n_mna X (g := 11) (g' := 12) (N := 6) (M := 8) (q := 81) d_H_init_77 rfl rfl wl65 wl115 (by rw [hsz]; exact had 16 (11, 0) rfl) (fun i hi => ?_) (fun _ _ => rfl) (by decide +kernel) (by decide +kernel) (by decide +kernel) (by decide +kernel) (by decide) (by decide) (by decide) rfl ?_
  · rw [hsz]
    rcases (by omega : i = 0 ∨ i = 1 ∨ i = 2 ∨ i = 3 ∨ i = 4 ∨ i = 5) with rfl | rfl | rfl | rfl | rfl | rfl
    · exact had 17 (12, 0) rfl
    · exact had 18 (12, 1) rfl
    · exact had 19 (12, 2) rfl
    · exact had 20 (12, 3) rfl
    · exact had 21 (12, 4) rfl
    · exact had 22 (12, 5) rfl
  refine n_put X (C := jR2) (T := jT2) (N := 12) (j := 10) (q := 84) d_H_init_81 ju2 rfl jt2 jt2_ok jn2 (by decide) wl97 rfl rfl rfl rfl rfl (Nat.le_of_ble_eq_true rfl) rfl ?_
  refine n_load X (q := 85) d_H_init_84 rfl ?_
  refine n_bipush X (v := nI 6) (q := 87) d_H_init_85 (by decide +kernel) rfl ?_
  refine n_newa X (g := 13) (t := 0) (N := 6) (q := 89) d_H_init_87 rfl (fun _ => rfl) (fun _ => rfl) rfl wl115 (fun _ _ h => h) (by rw [hsz]; exact had 23 (13, 0) rfl) rfl (by decide +kernel) (by decide +kernel) (by decide) (by decide) rfl ?_
  refine n_put X (C := jR2) (T := jT2) (N := 12) (j := 11) (q := 92) d_H_init_89 ju2 rfl jt2 jt2_ok jn2 (by decide) wl100 rfl rfl rfl rfl rfl (Nat.le_of_ble_eq_true rfl) rfl ?_
  refine n_load X (q := 93) d_H_init_92 rfl ?_
  refine n_own X (C := jR2) (T := jT2) (N := 12) (g0 := 1) (rw0 := jrwH) (q := 96) (fs' := fun σ' => jxfs Θ.2.2.1 (σ' 1 0) 0 [some 2, some 3, some 4, none, some 5, some 6, some 7, some 8, none, some 9, some 11, some 13]) d_H_init_93 (c_H_reset (jI_of ha had jtH_cov) (fun _ _ h => h) _) rfl rfl (by decide) wl66 wl67 wl68 wl37 wl69 (by decide +kernel) ⟨rfl, rfl⟩ (by decide) (by decide) rfl rfl (fun _ => rfl) (jcov_of jtH_cov (by decide)) (by decide) rfl (fun σ1 hσ1 => ?_) (fun _ _ h => h.1)
  exact n_ret X (g0 := 1) d_H_init_96 hσ1.2.1 rfl rfl (jcov_of jtH_cov (by decide))
set_option maxRecDepth 100000 in
set_option maxHeartbeats 4000000 in
theorem c_M_init {l : Launch} {Θ : jxT} {sz : Nat} (ha : Θ.2.2.1 40 0 < sz) (had : ∀ i q, jtM[i]? = some q → Θ.2.2.1 q.1 q.2 = sz + i) : jxNew l y_M_init b_M_init jrmM Θ 5 jfM jrwM 13 678 (Θ.2.2.1 40 0) sz (fun σ => σ = fun _ _ _ => 0) := by
  refine jxNew.of (own := "HistoryJudgeModel") (by decide) rfl rfl ha (fun Γ X hsz => ?_)
  refine n_load X (q := 1) d_M_init_0 rfl ?_
  refine n_obj X (q := 4) d_M_init_1 wl482 wl57 wl58 (by decide) rfl ?_
  refine n_load X (q := 5) d_M_init_4 rfl ?_
  refine n_bipush X (v := nI 8) (q := 7) d_M_init_5 (by decide +kernel) rfl ?_
  refine n_newa X (g := 41) (t := 0) (N := 8) (q := 9) d_M_init_7 rfl (fun _ => rfl) (fun _ => rfl) rfl wl115 (fun _ _ h => h) (by rw [hsz]; exact had 0 (41, 0) rfl) rfl (by decide +kernel) (by decide +kernel) (by decide) (by decide) rfl ?_
  refine n_put X (C := jR5) (T := jT5) (N := 18) (j := 1) (q := 12) d_M_init_9 ju5 rfl jt5 jt5_ok jn5 (by decide) wl484 rfl rfl rfl rfl rfl (Nat.le_of_ble_eq_true rfl) rfl ?_
  refine n_load X (q := 13) d_M_init_12 rfl ?_
  refine n_bipush X (v := nI 40) (q := 15) d_M_init_13 (by decide +kernel) rfl ?_
  refine n_newa X (g := 42) (t := 0) (N := 40) (q := 17) d_M_init_15 rfl (fun _ => rfl) (fun _ => rfl) rfl wl115 (fun _ _ h => h) (by rw [hsz]; exact had 1 (42, 0) rfl) rfl (by decide +kernel) (by decide +kernel) (by decide) (by decide) rfl ?_
  refine n_put X (C := jR5) (T := jT5) (N := 18) (j := 3) (q := 20) d_M_init_17 ju5 rfl jt5 jt5_ok jn5 (by decide) wl486 rfl rfl rfl rfl rfl (Nat.le_of_ble_eq_true rfl) rfl ?_
  refine n_load X (q := 21) d_M_init_20 rfl ?_
  refine n_bipush X (v := nI 40) (q := 23) d_M_init_21 (by decide +kernel) rfl ?_
  refine n_newa X (g := 43) (t := 0) (N := 40) (q := 25) d_M_init_23 rfl (fun _ => rfl) (fun _ => rfl) rfl wl115 (fun _ _ h => h) (by rw [hsz]; exact had 2 (43, 0) rfl) rfl (by decide +kernel) (by decide +kernel) (by decide) (by decide) rfl ?_
  refine n_put X (C := jR5) (T := jT5) (N := 18) (j := 4) (q := 28) d_M_init_25 ju5 rfl jt5 jt5_ok jn5 (by decide) wl487 rfl rfl rfl rfl rfl (Nat.le_of_ble_eq_true rfl) rfl ?_
  refine n_load X (q := 29) d_M_init_28 rfl ?_
  refine n_bipush X (v := nI 100) (q := 31) d_M_init_29 (by decide +kernel) rfl ?_
  refine n_newa X (g := 44) (t := 0) (N := 100) (q := 33) d_M_init_31 rfl (fun _ => rfl) (fun _ => rfl) rfl wl115 (fun _ _ h => h) (by rw [hsz]; exact had 3 (44, 0) rfl) rfl (by decide +kernel) (by decide +kernel) (by decide) (by decide) rfl ?_
  refine n_put X (C := jR5) (T := jT5) (N := 18) (j := 7) (q := 36) d_M_init_33 ju5 rfl jt5 jt5_ok jn5 (by decide) wl490 rfl rfl rfl rfl rfl (Nat.le_of_ble_eq_true rfl) rfl ?_
  refine n_load X (q := 37) d_M_init_36 rfl ?_
  refine n_bipush X (v := nI 100) (q := 39) d_M_init_37 (by decide +kernel) rfl ?_
  refine n_newa X (g := 45) (t := 0) (N := 100) (q := 41) d_M_init_39 rfl (fun _ => rfl) (fun _ => rfl) rfl wl115 (fun _ _ h => h) (by rw [hsz]; exact had 4 (45, 0) rfl) rfl (by decide +kernel) (by decide +kernel) (by decide) (by decide) rfl ?_
  refine n_put X (C := jR5) (T := jT5) (N := 18) (j := 8) (q := 44) d_M_init_41 ju5 rfl jt5 jt5_ok jn5 (by decide) wl491 rfl rfl rfl rfl rfl (Nat.le_of_ble_eq_true rfl) rfl ?_
  refine n_load X (q := 45) d_M_init_44 rfl ?_
  refine n_bipush X (v := nI 100) (q := 47) d_M_init_45 (by decide +kernel) rfl ?_
  refine n_newa X (g := 46) (t := 0) (N := 100) (q := 49) d_M_init_47 rfl (fun _ => rfl) (fun _ => rfl) rfl wl115 (fun _ _ h => h) (by rw [hsz]; exact had 5 (46, 0) rfl) rfl (by decide +kernel) (by decide +kernel) (by decide) (by decide) rfl ?_
  refine n_put X (C := jR5) (T := jT5) (N := 18) (j := 9) (q := 52) d_M_init_49 ju5 rfl jt5 jt5_ok jn5 (by decide) wl492 rfl rfl rfl rfl rfl (Nat.le_of_ble_eq_true rfl) rfl ?_
  refine n_load X (q := 53) d_M_init_52 rfl ?_
  refine n_bipush X (v := nI 100) (q := 55) d_M_init_53 (by decide +kernel) rfl ?_
  refine n_newa X (g := 47) (t := 1) (N := 100) (q := 57) d_M_init_55 rfl (fun _ => rfl) (fun _ => rfl) rfl wl519 (fun _ _ h => h) (by rw [hsz]; exact had 6 (47, 0) rfl) rfl (by decide +kernel) (by decide +kernel) (by decide) (by decide) rfl ?_
  refine n_put X (C := jR5) (T := jT5) (N := 18) (j := 10) (q := 60) d_M_init_57 ju5 rfl jt5 jt5_ok jn5 (by decide) wl493 rfl rfl rfl rfl rfl (Nat.le_of_ble_eq_true rfl) rfl ?_
  refine n_load X (q := 61) d_M_init_60 rfl ?_
  refine n_bipush X (v := nI 6) (q := 63) d_M_init_61 (by decide +kernel) rfl ?_
  refine n_newa X (g := 48) (t := 0) (N := 6) (q := 65) d_M_init_63 rfl (fun _ => rfl) (fun _ => rfl) rfl wl115 (fun _ _ h => h) (by rw [hsz]; exact had 7 (48, 0) rfl) rfl (by decide +kernel) (by decide +kernel) (by decide) (by decide) rfl ?_
  refine n_put X (C := jR5) (T := jT5) (N := 18) (j := 11) (q := 68) d_M_init_65 ju5 rfl jt5 jt5_ok jn5 (by decide) wl494 rfl rfl rfl rfl rfl (Nat.le_of_ble_eq_true rfl) rfl ?_
  refine n_load X (q := 69) d_M_init_68 rfl ?_
  refine n_bipush X (v := nI 48) (q := 71) d_M_init_69 (by decide +kernel) rfl ?_
  refine n_newa X (g := 49) (t := 0) (N := 48) (q := 73) d_M_init_71 rfl (fun _ => rfl) (fun _ => rfl) rfl wl115 (fun _ _ h => h) (by rw [hsz]; exact had 8 (49, 0) rfl) rfl (by decide +kernel) (by decide +kernel) (by decide) (by decide) rfl ?_
  refine n_put X (C := jR5) (T := jT5) (N := 18) (j := 12) (q := 76) d_M_init_73 ju5 rfl jt5 jt5_ok jn5 (by decide) wl495 rfl rfl rfl rfl rfl (Nat.le_of_ble_eq_true rfl) rfl ?_
  refine n_load X (q := 77) d_M_init_76 rfl ?_
  refine n_bipush X (v := nI 64) (q := 79) d_M_init_77 (by decide +kernel) rfl ?_
  refine n_newa X (g := 50) (t := 0) (N := 64) (q := 81) d_M_init_79 rfl (fun _ => rfl) (fun _ => rfl) rfl wl115 (fun _ _ h => h) (by rw [hsz]; exact had 9 (50, 0) rfl) rfl (by decide +kernel) (by decide +kernel) (by decide) (by decide) rfl ?_
  refine n_put X (C := jR5) (T := jT5) (N := 18) (j := 13) (q := 84) d_M_init_81 ju5 rfl jt5 jt5_ok jn5 (by decide) wl496 rfl rfl rfl rfl rfl (Nat.le_of_ble_eq_true rfl) rfl ?_
  refine n_load X (q := 85) d_M_init_84 rfl ?_
  refine n_bipush X (v := nI 9) (q := 87) d_M_init_85 (by decide +kernel) rfl ?_
  refine n_newa X (g := 51) (t := 0) (N := 9) (q := 89) d_M_init_87 rfl (fun _ => rfl) (fun _ => rfl) rfl wl115 (fun _ _ h => h) (by rw [hsz]; exact had 10 (51, 0) rfl) rfl (by decide +kernel) (by decide +kernel) (by decide) (by decide) rfl ?_
  refine n_put X (C := jR5) (T := jT5) (N := 18) (j := 14) (q := 92) d_M_init_89 ju5 rfl jt5 jt5_ok jn5 (by decide) wl497 rfl rfl rfl rfl rfl (Nat.le_of_ble_eq_true rfl) rfl ?_
  refine n_load X (q := 93) d_M_init_92 rfl ?_
  refine n_bipush X (v := nI 9) (q := 95) d_M_init_93 (by decide +kernel) rfl ?_
  refine n_newa X (g := 52) (t := 0) (N := 9) (q := 97) d_M_init_95 rfl (fun _ => rfl) (fun _ => rfl) rfl wl115 (fun _ _ h => h) (by rw [hsz]; exact had 11 (52, 0) rfl) rfl (by decide +kernel) (by decide +kernel) (by decide) (by decide) rfl ?_
  refine n_put X (C := jR5) (T := jT5) (N := 18) (j := 15) (q := 100) d_M_init_97 ju5 rfl jt5 jt5_ok jn5 (by decide) wl498 rfl rfl rfl rfl rfl (Nat.le_of_ble_eq_true rfl) rfl ?_
  refine n_load X (q := 101) d_M_init_100 rfl ?_
  refine n_bipush X (v := nI 54) (q := 103) d_M_init_101 (by decide +kernel) rfl ?_
  refine n_newa X (g := 53) (t := 0) (N := 54) (q := 105) d_M_init_103 rfl (fun _ => rfl) (fun _ => rfl) rfl wl115 (fun _ _ h => h) (by rw [hsz]; exact had 12 (53, 0) rfl) rfl (by decide +kernel) (by decide +kernel) (by decide) (by decide) rfl ?_
  refine n_put X (C := jR5) (T := jT5) (N := 18) (j := 17) (q := 108) d_M_init_105 ju5 rfl jt5 jt5_ok jn5 (by decide) wl500 rfl rfl rfl rfl rfl (Nat.le_of_ble_eq_true rfl) rfl ?_
  exact n_ret X (g0 := 40) d_M_init_108 rfl rfl rfl (jcov_of jtM_cov (by decide))
set_option maxRecDepth 100000 in
set_option maxHeartbeats 4000000 in
theorem c_J_init {l : Launch} {Θ : jxT} {sz : Nat} (ha : Θ.2.2.1 0 0 < sz) (had : ∀ i q, jtJ[i]? = some q → Θ.2.2.1 q.1 q.2 = sz + i) : jxNew l y_J_init b_J_init jrmJ Θ 4 jfJ jrwJ 47 871 (Θ.2.2.1 0 0) sz (jHs jh0) := by
  refine jxNew.of (own := "HistoryJudge") (by decide) rfl rfl ha (fun Γ X hsz => ?_)
  refine n_load X (q := 1) d_J_init_0 rfl ?_
  refine n_obj X (q := 4) d_J_init_1 wl56 wl57 wl58 (by decide) rfl ?_
  refine n_load X (q := 5) d_J_init_4 rfl ?_
  refine n_new X (C := jR2) (T := jT2) (N := 12) (ci' := 2) (g' := 1) (prS := (1, 0) :: jtH) (q := 12) jt2 ju2 rfl jt2_ok (by decide +kernel) wl59 wl60 wl37 (Or.inl wl61) wl62 wl63 (by decide +kernel) d_J_init_5 d_J_init_8 d_J_init_9 ⟨rfl, rfl⟩ (by decide) (by decide) (by simp [Value.category]) (by rw [hsz]; exact had 0 (1, 0) rfl)
    (c_H_init (by omega) (jad_sub had (k := 0) (g := 1) rfl (by decide))) (by decide) (fun q hq => by rw [hsz]; exact jge_of had ((by decide : ∀ q ∈ (1, 0) :: jtH, q ∈ jtJ) q hq)) (by decide) rfl (fun σ1 hσ1 => ?_)
  refine n_put X (C := jR4) (T := jT4) (N := 4) (j := 0) (q := 15) d_J_init_12 ju4 rfl jt4 jt4_ok jn4 (by decide) wl166 rfl rfl rfl rfl rfl (Nat.le_of_ble_eq_true rfl) rfl ?_
  refine n_load X (q := 16) d_J_init_15 rfl ?_
  refine n_new X (C := jR1) (T := jT1) (N := 3) (ci' := 1) (g' := 20) (prS := (20, 0) :: jtG) (q := 23) jt1 ju1 rfl jt1_ok (by decide +kernel) wl116 wl117 wl39 (Or.inr ⟨_, nl0⟩) wl118 wl119 (by decide +kernel) d_J_init_16 d_J_init_19 d_J_init_20 ⟨rfl, rfl⟩ (by decide) (by decide) (by simp [Value.category]) (by rw [hsz]; exact had 25 (20, 0) rfl)
    (c_G_init (by omega) (jad_sub had (k := 25) (g := 20) rfl (by decide))) (by decide) (fun q hq => by rw [hsz]; exact jge_of had ((by decide : ∀ q ∈ (20, 0) :: jtG, q ∈ jtJ) q hq)) (by decide) rfl (fun σ2 hσ2 => ?_)
  refine n_put X (C := jR4) (T := jT4) (N := 4) (j := 1) (q := 26) d_J_init_23 ju4 rfl jt4 jt4_ok jn4 (by decide) wl167 rfl rfl rfl rfl rfl (Nat.le_of_ble_eq_true rfl) rfl ?_
  refine n_load X (q := 27) d_J_init_26 rfl ?_
  refine n_new X (C := jR0) (T := jT0) (N := 5) (ci' := 0) (g' := 24) (prS := (24, 0) :: jtC) (q := 34) jt0 ju0 rfl jt0_ok (by decide +kernel) wl133 wl134 wl40 (Or.inr ⟨_, nl1⟩) wl135 wl136 (by decide +kernel) d_J_init_27 d_J_init_30 d_J_init_31 ⟨rfl, rfl⟩ (by decide) (by decide) (by simp [Value.category]) (by rw [hsz]; exact had 29 (24, 0) rfl)
    (c_C_init (by omega) (jad_sub had (k := 29) (g := 24) rfl (by decide))) (by decide) (fun q hq => by rw [hsz]; exact jge_of had ((by decide : ∀ q ∈ (24, 0) :: jtC, q ∈ jtJ) q hq)) (by decide) rfl (fun σ3 hσ3 => ?_)
  refine n_put X (C := jR4) (T := jT4) (N := 4) (j := 2) (q := 37) d_J_init_34 ju4 rfl jt4 jt4_ok jn4 (by decide) wl168 rfl rfl rfl rfl rfl (Nat.le_of_ble_eq_true rfl) rfl ?_
  refine n_load X (q := 38) d_J_init_37 rfl ?_
  refine n_new X (C := jR3) (T := jT3) (N := 5) (ci' := 3) (g' := 30) (prS := (30, 0) :: jtS) (q := 45) jt3 ju3 rfl jt3_ok (by decide +kernel) wl149 wl150 wl41 (Or.inr ⟨_, nl2⟩) wl151 wl152 (by decide +kernel) d_J_init_38 d_J_init_41 d_J_init_42 ⟨rfl, rfl⟩ (by decide) (by decide) (by simp [Value.category]) (by rw [hsz]; exact had 35 (30, 0) rfl)
    (c_S_init (by omega) (jad_sub had (k := 35) (g := 30) rfl (by decide))) (by decide) (fun q hq => by rw [hsz]; exact jge_of had ((by decide : ∀ q ∈ (30, 0) :: jtS, q ∈ jtJ) q hq)) (by decide) rfl (fun σ4 hσ4 => ?_)
  refine n_put X (C := jR4) (T := jT4) (N := 4) (j := 3) (q := 48) d_J_init_45 ju4 rfl jt4 jt4_ok jn4 (by decide) wl169 rfl rfl rfl rfl rfl (Nat.le_of_ble_eq_true rfl) rfl ?_
  refine n_ret X (g0 := 0) d_J_init_48 (jHs_rw (fun g hg => ?_) hσ1) rfl rfl (jcov_of jtJ_cov (by decide))
  unfold jxmx
  have h1 : ¬ 0 < jrwS g := fun q => by unfold jrwH at hg; unfold jrwS at q; split at hg <;> simp at hg q
  have h2 : ¬ 0 < jrwC g := fun q => by unfold jrwH at hg; unfold jrwC at q; split at hg <;> simp at hg q
  have h3 : ¬ 0 < jrwG g := fun q => by unfold jrwH at hg; unfold jrwG at q; split at hg <;> simp at hg q
  rw [if_neg h1, if_neg h2, if_neg h3, if_pos hg]
