/-! The reference: the search for an order. -/
/-- an order of all that committed that reads what was read, begun by one of a .. b -/
def jVo (h : jH) (a b n : Nat) (r : Nat → Nat) : Prop := jpm (jcmt h) n r ∧ (∀ i, i < n → jrdT h r i (r i)) ∧ a ≤ r 0 ∧ r 0 ≤ b
/-- t may stand behind the first d of the row -/
def jfq (h : jH) (d t : Nat) (row : Nat → Nat) : Prop := hyS h t = 2 ∧ (∀ i, i < d → row i ≠ t) ∧ jrdT h row d t
theorem jfq_ext {h : jH} {d t : Nat} {row r : Nat → Nat} (e : ∀ i, i < d → row i = r i) : jfq h d t row ↔ jfq h d t r := by
  unfold jfq
  rw [jrdT_ext e]
  exact ⟨fun q => ⟨q.1, fun i hi => by rw [← e i hi]; exact q.2.1 i hi, q.2.2⟩, fun q => ⟨q.1, fun i hi => by rw [e i hi]; exact q.2.1 i hi, q.2.2⟩⟩
theorem jVo_fq {h : jH} {a b n : Nat} {r : Nat → Nat} (q : jVo h a b n r) {d : Nat} (hd : d < n) : jfq h d (r d) r := by
  obtain ⟨⟨q1, q2, q3⟩, q4, -⟩ := q
  exact ⟨of_decide_eq_true (q1 d hd).2, fun i hi e => by have := q2 i d (by omega) hd e; omega, q4 d hd⟩
theorem jVo_of {h : jH} {a b : Nat} {row : Nat → Nat} (h8 : ∀ i, i < jct (jcmt h) → row i < 8) (hf : ∀ i, i < jct (jcmt h) → jfq h i (row i) row) (ha : a ≤ row 0) (hb : row 0 ≤ b) : jVo h a b (jct (jcmt h)) row := by
  refine ⟨jpm_of (fun i hi => ⟨h8 i hi, decide_eq_true (hf i hi).1⟩) (fun i j hi hj e => ?_), fun i hi => (hf i hi).2.2, ha, hb⟩
  rcases Nat.lt_trichotomy i j with q | q | q
  · exact absurd e ((hf j hj).2.1 i q)
  · exact q
  · exact absurd e.symm ((hf i hi).2.1 j q)
theorem jla_lt {h : jH} (hw : jHw h) {row : Nat → Nat} {d x : Nat} (hx : x < 6) (h8 : ∀ i, i < d → row i < 8) : ∀ w, jla (hylt h) row d x = some w → w < hyV h := fun w q => by
  obtain ⟨j, hj, hl, -⟩ := jla_some d q
  exact (jHw_lt hw (h8 j hj) hx hl).1
/-- where the search stands -/
def jIo (h : jH) (a b n : Nat) (σ : jxM) (D : Nat) (row tr : Nat → Nat) (σ1 : jxM) : Prop := (∀ g', g' ≠ 51 → g' ≠ 52 → g' ≠ 53 → σ1 g' = σ g') ∧ match D with
  | 0 => ∀ r, ¬ jVo h a b n r
  | d + 1 => d ≤ n ∧ jRo d row σ1 ∧ (∀ i, i < d → jfq h i (row i) row) ∧ (∀ i, i ≤ d → σ1 52 0 i = nI (tr i)) ∧ (∀ i, i < d → tr i = row i + 1) ∧ tr d ≤ 8 ∧ jdf (jVo h a b n) d row tr ∧ (a ≤ row 0 ∧ row 0 ≤ b ∧ a ≤ tr 0) ∧ ∀ i, i ≤ d → ∀ x, x < 6 → σ1 53 0 (6 * i + x) = vI (jla (hylt h) row i x)
theorem jIo_0 {h : jH} {a b n : Nat} {σ σ1 : jxM} (ha : a ≤ 8) (hab : a ≤ b) (hf : ∀ g', g' ≠ 51 → g' ≠ 52 → g' ≠ 53 → σ1 g' = σ g') (hl : ∀ x, x < 6 → σ1 53 0 x = -1) (ht : σ1 52 0 0 = nI a) : jIo h a b n σ (0 + 1) (fun _ => a) (fun _ => a) σ1 := by
  have z : ∀ i, ¬ i < 0 := fun i hi => by omega
  refine ⟨hf, Nat.zero_le _, fun i hi => absurd hi (z i), fun i hi => absurd hi (z i), fun i hi => ?_, fun i hi => absurd hi (z i), ha, jdf_0 (fun r q => q.2.2.1), ⟨Nat.le_refl _, hab, Nat.le_refl _⟩, fun i hi x hx => ?_⟩
  · rw [Nat.le_zero.mp hi]; exact ht
  · rw [Nat.le_zero.mp hi, Nat.mul_zero, Nat.zero_add]; exact hl x hx
set_option maxRecDepth 100000 in
set_option maxHeartbeats 4000000 in
theorem c_M_tryOrders {l : Launch} {Θ : jxT} (hI : jxI Θ) (hC : ∀ g r, r < jrwM g → Θ.2.2.2 g r) {h : jH} {v : jV} {σ : jxM} (hw : jHw h) (hv : jVc h v) (hm : jMs h v σ) {a b : Nat} (hab : a ≤ b) (hb7 : b ≤ 7) : jxMet l y_M_tryOrders b_M_tryOrders 5 (some FieldType.boolean) (jrm 3) Θ [.inr (40, 0), .inl (nI a), .inl (nI b)] σ (fun r' σ' => (∃ z : Bool, r' = some (.inl (jB z)) ∧ (z = false → ∀ r, ¬ jVo h a b (jct (jcmt h)) r) ∧ (z = true → ∃ row, (∀ i, i < jct (jcmt h) → row i < 8 ∧ σ' 51 0 i = nI (row i)) ∧ jVo h a b (jct (jcmt h)) row ∧ ∀ r, jVo h a b (jct (jcmt h)) r → jlx (jct (jcmt h)) row r)) ∧ σ' 40 0 16 = nI (jct (jcmt h)) ∧ (∀ g', g' ≠ 40 → g' ≠ 51 → g' ≠ 52 → g' ≠ 53 → σ' g' = σ g') ∧ ∀ j, j ≠ 16 → σ' 40 0 j = σ 40 0 j) := by
  refine jxMet.of (own := "HistoryJudgeModel") hI (by decide) rfl (Nat.le_of_ble_eq_true rfl) (fun Γ X => ?_)
  show jxW Γ Θ (fun r' σ' => (∃ z : Bool, r' = some (.inl (jB z)) ∧ (z = false → ∀ r, ¬ jVo h a b (jct (jcmt h)) r) ∧ (z = true → ∃ row, (∀ i, i < jct (jcmt h) → row i < 8 ∧ σ' 51 0 i = nI (row i)) ∧ jVo h a b (jct (jcmt h)) row ∧ ∀ r, jVo h a b (jct (jcmt h)) r → jlx (jct (jcmt h)) row r)) ∧ σ' 40 0 16 = nI (jct (jcmt h)) ∧ (∀ g', g' ≠ 40 → g' ≠ 51 → g' ≠ 52 → g' ≠ 53 → σ' g' = σ g') ∧ ∀ j, j ≠ 16 → σ' 40 0 j = σ 40 0 j) 0 [some (.inr (40, 0)), some (.inl (nI a)), some (.inl (nI b)), none, none] [] σ
  have hn8 := jct_le (jcmt h)
  refine j_aload_n X (q := 1) d_M_tryOrders_0 rfl rfl ?_
  refine j_aload_n X (q := 2) d_M_tryOrders_1 rfl rfl ?_
  refine j_callV X (n := 0) (C := jR5) (T := jT5) (N := 18) d_M_tryOrders_2 (c_M_committed hI hC hw hv hm) rfl rfl (hC _ _ (by decide)) wl639 wl640 wl33 wl42 wl641 (by decide +kernel) ⟨rfl, rfl⟩ (by decide) rfl rfl (Nat.le_of_ble_eq_true rfl) rfl (q := 5) rfl (fun r2 τ2 e2 => ?_)
  obtain ⟨rfl, rfl⟩ := e2
  refine j_putI X (C := jR5) (T := jT5) (N := 18) (ci := 5) (j := 16) (q := 8) d_M_tryOrders_5 ju5 rfl rfl jt5 jt5_ok jn5 rfl (by decide) wl499 rfl (hC _ _ (by decide)) rfl rfl (ty := .int) rfl rfl rfl ?_
  have E0 : ∀ σ1, jIo h a b (jct (jcmt h)) (jxs σ 40 0 16 (nI (jct (jcmt h)))) 0 (fun _ => 0) (fun _ => 0) σ1 → jxW Γ Θ (fun r' σ' => (∃ z : Bool, r' = some (.inl (jB z)) ∧ (z = false → ∀ r, ¬ jVo h a b (jct (jcmt h)) r) ∧ (z = true → ∃ row, (∀ i, i < jct (jcmt h) → row i < 8 ∧ σ' 51 0 i = nI (row i)) ∧ jVo h a b (jct (jcmt h)) row ∧ ∀ r, jVo h a b (jct (jcmt h)) r → jlx (jct (jcmt h)) row r)) ∧ σ' 40 0 16 = nI (jct (jcmt h)) ∧ (∀ g', g' ≠ 40 → g' ≠ 51 → g' ≠ 52 → g' ≠ 53 → σ' g' = σ g') ∧ ∀ j, j ≠ 16 → σ' 40 0 j = σ 40 0 j) 141 [some (.inr (40, 0)), some (.inl (nI a)), some (.inl (nI b)), some (.inl (vI (jprd 0))), none] [] σ1 := by
    intro σ1 hinv
    refine j_iload_n X (q := 142) d_M_tryOrders_141 rfl rfl ?_
    refine j_aload_n X (q := 143) d_M_tryOrders_142 rfl rfl ?_
    refine j_getI X (C := jR5) (T := jT5) (N := 18) (ci := 5) (j := 16) (q := 146) d_M_tryOrders_143 ju5 rfl rfl rfl (by decide) wl499 rfl (hC _ _ (by decide)) rfl (show σ1 40 0 16 = nI (jct (jcmt h)) by first | rw [hf1 40 (by decide) (by decide) (by decide), jxs_at, if_pos ⟨rfl, rfl, rfl⟩] | rw [hinv.1 40 (by decide) (by decide) (by decide), jxs_at, if_pos ⟨rfl, rfl, rfl⟩]) ?_
    refine j_icmp_ne X (tgt := 153) (q := 149) d_M_tryOrders_146 (by decide) rfl (fun h146 => ?_) (fun h146 => ?_)
    · have _b146 := True.intro
      refine j_iconst X (v := (nI 0)) (q := 154) d_M_tryOrders_153 (by decide +kernel) rfl ?_
      refine j_zret X d_M_tryOrders_154 (by decide +kernel) ?_
      exact ⟨⟨false, rfl, fun _ => hinv.2, fun q => by cases q⟩, (show σ1 40 0 16 = nI (jct (jcmt h)) by rw [hinv.1 40 (by decide) (by decide) (by decide), jxs_at, if_pos ⟨rfl, rfl, rfl⟩]), fun g' q1 q2 q3 q4 => by rw [hinv.1 g' q2 q3 q4, jxs_g _ _ _ _ _ q1], fun j hj => by rw [hinv.1 40 (by decide) (by decide) (by decide), jxs_at, if_neg (fun q => hj q.2.2)]⟩
    · have _b146 := True.intro
      refine j_iconst X (v := (nI 1)) (q := 150) d_M_tryOrders_149 (by decide +kernel) rfl ?_
      refine j_goto X (tgt := 154) d_M_tryOrders_150 (by decide) ?_
      refine j_zret X d_M_tryOrders_154 (by decide +kernel) ?_
      exact absurd h146.symm (nI_ne_m1 (by omega))
  have E1 : ∀ d σ1 row tr, d = jct (jcmt h) → jIo h a b (jct (jcmt h)) (jxs σ 40 0 16 (nI (jct (jcmt h)))) (d + 1) row tr σ1 → jxW Γ Θ (fun r' σ' => (∃ z : Bool, r' = some (.inl (jB z)) ∧ (z = false → ∀ r, ¬ jVo h a b (jct (jcmt h)) r) ∧ (z = true → ∃ row, (∀ i, i < jct (jcmt h) → row i < 8 ∧ σ' 51 0 i = nI (row i)) ∧ jVo h a b (jct (jcmt h)) row ∧ ∀ r, jVo h a b (jct (jcmt h)) r → jlx (jct (jcmt h)) row r)) ∧ σ' 40 0 16 = nI (jct (jcmt h)) ∧ (∀ g', g' ≠ 40 → g' ≠ 51 → g' ≠ 52 → g' ≠ 53 → σ' g' = σ g') ∧ ∀ j, j ≠ 16 → σ' 40 0 j = σ 40 0 j) 141 [some (.inr (40, 0)), some (.inl (nI a)), some (.inl (nI b)), some (.inl (nI d)), none] [] σ1 := by
    intro d σ1 row tr ed hinv
    obtain ⟨hf1, hdn, hro, hfp, htv, htr, ht8, hdf, hab1, hlt⟩ := hinv
    refine j_iload_n X (q := 142) d_M_tryOrders_141 rfl rfl ?_
    refine j_aload_n X (q := 143) d_M_tryOrders_142 rfl rfl ?_
    refine j_getI X (C := jR5) (T := jT5) (N := 18) (ci := 5) (j := 16) (q := 146) d_M_tryOrders_143 ju5 rfl rfl rfl (by decide) wl499 rfl (hC _ _ (by decide)) rfl (show σ1 40 0 16 = nI (jct (jcmt h)) by first | rw [hf1 40 (by decide) (by decide) (by decide), jxs_at, if_pos ⟨rfl, rfl, rfl⟩] | rw [hinv.1 40 (by decide) (by decide) (by decide), jxs_at, if_pos ⟨rfl, rfl, rfl⟩]) ?_
    refine j_icmp_ne X (tgt := 153) (q := 149) d_M_tryOrders_146 (by decide) rfl (fun h146 => ?_) (fun h146 => ?_)
    · have _b146 := True.intro
      refine j_iconst X (v := (nI 0)) (q := 154) d_M_tryOrders_153 (by decide +kernel) rfl ?_
      refine j_zret X d_M_tryOrders_154 (by decide +kernel) ?_
      exact absurd (congrArg nI ed) h146
    · have _b146 := True.intro
      refine j_iconst X (v := (nI 1)) (q := 150) d_M_tryOrders_149 (by decide +kernel) rfl ?_
      refine j_goto X (tgt := 154) d_M_tryOrders_150 (by decide) ?_
      refine j_zret X d_M_tryOrders_154 (by decide +kernel) ?_
      have edn : d = jct (jcmt h) := by omega
      subst edn
      exact ⟨⟨true, rfl, fun q => (by cases q), fun _ => ⟨row, hro, jVo_of (fun i hi => (hro i hi).1) hfp hab1.1 hab1.2.1, jdf_least hdf⟩⟩, (show σ1 40 0 16 = nI (jct (jcmt h)) by rw [hf1 40 (by decide) (by decide) (by decide), jxs_at, if_pos ⟨rfl, rfl, rfl⟩]), fun g' q1 q2 q3 q4 => by rw [hf1 g' q2 q3 q4, jxs_g _ _ _ _ _ q1], fun j hj => by rw [hf1 40 (by decide) (by decide) (by decide), jxs_at, if_neg (fun q => hj q.2.2)]⟩
  have K : ∀ (N : Nat) (D : Nat) (σ1 : jxM) (row : Nat → Nat) (tr : Nat → Nat), jmuD (jct (jcmt h)) tr D < N → jIo h a b (jct (jcmt h)) (jxs σ 40 0 16 (nI (jct (jcmt h)))) D row tr σ1 → jxW Γ Θ (fun r' σ' => (∃ z : Bool, r' = some (.inl (jB z)) ∧ (z = false → ∀ r, ¬ jVo h a b (jct (jcmt h)) r) ∧ (z = true → ∃ row, (∀ i, i < jct (jcmt h) → row i < 8 ∧ σ' 51 0 i = nI (row i)) ∧ jVo h a b (jct (jcmt h)) row ∧ ∀ r, jVo h a b (jct (jcmt h)) r → jlx (jct (jcmt h)) row r)) ∧ σ' 40 0 16 = nI (jct (jcmt h)) ∧ (∀ g', g' ≠ 40 → g' ≠ 51 → g' ≠ 52 → g' ≠ 53 → σ' g' = σ g') ∧ ∀ j, j ≠ 16 → σ' 40 0 j = σ 40 0 j) 38 [some (.inr (40, 0)), some (.inl (nI a)), some (.inl (nI b)), some (.inl (vI (jprd D))), none] [] σ1 := by
    intro N
    induction N with
    | zero => intro D σ1 row tr hn; exact absurd hn (Nat.not_lt_zero _)
    | succ N ih =>
      intro D σ1 row tr hn hinv
      refine j_iload_n X (q := 39) d_M_tryOrders_38 rfl rfl ?_
      refine j_if_lt X (tgt := 141) (q := 42) d_M_tryOrders_39 (by decide) rfl (fun h39 => ?_) (fun h39 => ?_)
      · have _b39 := True.intro
        have hD0 : D = 0 := by
          cases D with
          | zero => rfl
          | succ d => exact absurd h39 (nI_pos (by have := hinv.2.1; omega))
        subst hD0
        exact E0 σ1 hinv
      · have _b39 := True.intro
        obtain ⟨d, rfl⟩ : ∃ d, D = d + 1 := by
          cases D with
          | zero => exact absurd (by decide +kernel : vI (jprd 0) < 0) h39
          | succ d => exact ⟨d, rfl⟩
        obtain ⟨hf1, hdn, hro, hfp, htv, htr, ht8, hdf, hab1, hlt⟩ := hinv
        refine jxW.to (L' := [some (.inr (40, 0)), some (.inl (nI a)), some (.inl (nI b)), some (.inl (nI d)), none]) (by simp [jfg]; rfl) ?_
        refine j_iload_n X (q := 43) d_M_tryOrders_42 rfl rfl ?_
        refine j_aload_n X (q := 44) d_M_tryOrders_43 rfl rfl ?_
        refine j_getI X (C := jR5) (T := jT5) (N := 18) (ci := 5) (j := 16) (q := 47) d_M_tryOrders_44 ju5 rfl rfl rfl (by decide) wl499 rfl (hC _ _ (by decide)) rfl (show σ1 40 0 16 = nI (jct (jcmt h)) by rw [hf1 40 (by decide) (by decide) (by decide), jxs_at, if_pos ⟨rfl, rfl, rfl⟩]) ?_
        refine j_ncmp_ge X (tgt := 141) (q := 50) d_M_tryOrders_47 (by decide) rfl (by omega) (by omega) (fun h47 => ?_) (fun h47 => ?_)
        · have _b47 := True.intro
          exact E1 d σ1 row tr (by omega) ⟨hf1, hdn, hro, hfp, htv, htr, ht8, hdf, hab1, hlt⟩
        · have _b47 := True.intro
          refine j_aload_n X (q := 51) d_M_tryOrders_50 rfl rfl ?_
          refine j_getR X (C := jR5) (T := jT5) (N := 18) (ci := 5) (j := 15) (q := 54) d_M_tryOrders_51 ju5 rfl rfl rfl (by decide) wl498 rfl (hC _ _ (by decide)) rfl ?_
          refine j_iload_n X (q := 55) d_M_tryOrders_54 rfl rfl ?_
          refine j_iald X (j := d) (q := 56) d_M_tryOrders_55 rfl (by decide) rfl (by omega) (hC _ _ (by decide)) rfl (htv d (Nat.le_refl _)) ?_
          refine j_istore X (q := 58) d_M_tryOrders_56 (Nat.le_of_ble_eq_true rfl) rfl ?_
          refine j_aload_n X (q := 59) d_M_tryOrders_58 rfl rfl ?_
          refine j_getR X (C := jR5) (T := jT5) (N := 18) (ci := 5) (j := 15) (q := 62) d_M_tryOrders_59 ju5 rfl rfl rfl (by decide) wl498 rfl (hC _ _ (by decide)) rfl ?_
          refine j_iload_n X (q := 63) d_M_tryOrders_62 rfl rfl ?_
          refine j_iload X (q := 65) d_M_tryOrders_63 rfl rfl ?_
          refine j_iconst X (v := (nI 1)) (q := 66) d_M_tryOrders_65 (by decide +kernel) rfl ?_
          refine j_iadd X (q := 67) d_M_tryOrders_66 rfl ?_
          refine j_iast X (j := d) (q := 68) d_M_tryOrders_67 rfl (by decide) rfl (by omega) (hC _ _ (by decide)) rfl ?_
          have J80 : ∀ hi, hi ≤ 7 → (d = 0 → hi = b) → (d ≠ 0 → hi = 7) → jxW Γ Θ (fun r' σ' => (∃ z : Bool, r' = some (.inl (jB z)) ∧ (z = false → ∀ r, ¬ jVo h a b (jct (jcmt h)) r) ∧ (z = true → ∃ row, (∀ i, i < jct (jcmt h) → row i < 8 ∧ σ' 51 0 i = nI (row i)) ∧ jVo h a b (jct (jcmt h)) row ∧ ∀ r, jVo h a b (jct (jcmt h)) r → jlx (jct (jcmt h)) row r)) ∧ σ' 40 0 16 = nI (jct (jcmt h)) ∧ (∀ g', g' ≠ 40 → g' ≠ 51 → g' ≠ 52 → g' ≠ 53 → σ' g' = σ g') ∧ ∀ j, j ≠ 16 → σ' 40 0 j = σ 40 0 j) 80 [some (.inr (40, 0)), some (.inl (nI a)), some (.inl (nI b)), some (.inl (nI d)), some (.inl (nI (tr d)))] [.inl (nI hi), .inl (nI (tr d))] (jxs σ1 52 0 d (nI (tr d) + nI 1)) := by
            intro hi hh7 hhi0 hhi1
            have htd : d = 0 → a ≤ tr d := fun q => by rw [q]; exact hab1.2.2
            refine j_ncmp_le X (tgt := 90) (q := 83) d_M_tryOrders_80 (by decide) rfl (by omega) (by omega) (fun h80 => ?_) (fun h80 => ?_)
            · have _b80 := True.intro
              refine j_aload_n X (q := 91) d_M_tryOrders_90 rfl rfl ?_
              refine j_iload X (q := 93) d_M_tryOrders_91 rfl rfl ?_
              refine j_callV X (n := 1) (C := jR5) (T := jT5) (N := 18) d_M_tryOrders_93 (c_M_isCommitted hI hC hw hv (jMs_keep hm ⟨fun g h1 h2 => by rw [jxs_g _ _ _ _ _ (by omega), hf1 g (by omega) (by omega) (by omega), jxs_g _ _ _ _ _ h1], fun j _ h2 => by rw [jxs_g _ _ _ _ _ (by omega), hf1 40 (by decide) (by decide) (by decide), jxs_at, if_neg (fun q => h2 q.2.2)]⟩) (t := tr d) (by omega)) rfl rfl (hC _ _ (by decide)) wl574 wl575 wl19 wl42 wl576 (by decide +kernel) ⟨rfl, rfl⟩ (by decide) rfl rfl (Nat.le_of_ble_eq_true rfl) rfl (q := 96) rfl (fun r93 τ93 e93 => ?_)
              obtain ⟨rfl, rfl⟩ := e93
              refine j_bif_eq X (tgt := 138) (q := 99) d_M_tryOrders_96 (by decide) rfl (fun h96 => ?_) (fun h96 => ?_)
              · have _b96 := True.intro
                refine j_goto X (tgt := 38) d_M_tryOrders_138 (by decide) ?_
                refine jxW.to (L' := [some (.inr (40, 0)), some (.inl (nI a)), some (.inl (nI b)), some (.inl (vI (jprd (d + 1)))), none]) (by simp [jfg]; rfl) ?_
                refine ih (d + 1) _ row (jup tr d (tr d + 1)) (Nat.lt_of_lt_of_le (Nat.add_lt_add_right (jmu_no (n := jct (jcmt h)) (tr := tr) (tr' := jup tr d (tr d + 1)) (d := d) (fun i hi => if_neg (by omega)) (if_pos rfl) (show tr d < 10 by omega)) 1) (Nat.le_of_lt_succ hn)) ⟨fun g' h1 h2 h3 => by rw [jxs_g _ _ _ _ _ h2, hf1 g' h1 h2 h3], hdn, fun i hi => ⟨(hro i hi).1, by rw [jxs_g _ _ _ _ _ (by decide)]; exact (hro i hi).2⟩, hfp, fun i hi => ?_, fun i hi => by show (if i = d then _ else tr i) = _; rw [if_neg (by omega)]; exact htr i hi, by show (if d = d then _ else tr d) ≤ 8; rw [if_pos rfl]; omega, jdf_no hdf (fun r hr hag e => ?_) (if_pos rfl), ⟨hab1.1, hab1.2.1, by show a ≤ (if 0 = d then _ else tr 0); split <;> omega⟩, fun i hi x hx => by rw [jxs_g _ _ _ _ _ (by decide)]; exact hlt i hi x hx⟩
                · rw [jxs_at]
                  show _ = nI (if i = d then _ else tr i)
                  by_cases z : i = d
                  · subst z; rw [if_pos ⟨rfl, rfl, rfl⟩, if_pos rfl, nI_add]
                  · rw [if_neg (fun q => z q.2.2), if_neg z]; exact htv i hi
                · have hfo := (jfq_ext hag).mpr (jVo_fq hr (show d < jct (jcmt h) by omega))
                  rw [e] at hfo
                  exact jdec_f h96 hfo.1
              · have _b96 := True.intro
                refine j_aload_n X (q := 100) d_M_tryOrders_99 rfl rfl ?_
                refine j_iload X (q := 102) d_M_tryOrders_100 rfl rfl ?_
                refine j_iload_n X (q := 103) d_M_tryOrders_102 rfl rfl ?_
                refine j_callV X (n := 2) (C := jR5) (T := jT5) (N := 18) d_M_tryOrders_103 (c_M_inRow hI hC (t := tr d) (n := d) (row := row) (by omega) (by omega) (fun i hi => by rw [jxs_g _ _ _ _ _ (by decide)]; exact hro i hi)) rfl rfl (hC _ _ (by decide)) wl605 wl606 wl28 wl42 wl607 (by decide +kernel) ⟨rfl, rfl⟩ (by decide) rfl rfl (Nat.le_of_ble_eq_true rfl) rfl (q := 106) rfl (fun r103 τ103 e103 => ?_)
                obtain ⟨rfl, rfl⟩ := e103
                refine j_bif_ne X (tgt := 138) (q := 109) d_M_tryOrders_106 (by decide) rfl (fun h106 => ?_) (fun h106 => ?_)
                · have _b106 := True.intro
                  refine j_goto X (tgt := 38) d_M_tryOrders_138 (by decide) ?_
                  refine jxW.to (L' := [some (.inr (40, 0)), some (.inl (nI a)), some (.inl (nI b)), some (.inl (vI (jprd (d + 1)))), none]) (by simp [jfg]; rfl) ?_
                  refine ih (d + 1) _ row (jup tr d (tr d + 1)) (Nat.lt_of_lt_of_le (Nat.add_lt_add_right (jmu_no (n := jct (jcmt h)) (tr := tr) (tr' := jup tr d (tr d + 1)) (d := d) (fun i hi => if_neg (by omega)) (if_pos rfl) (show tr d < 10 by omega)) 1) (Nat.le_of_lt_succ hn)) ⟨fun g' h1 h2 h3 => by rw [jxs_g _ _ _ _ _ h2, hf1 g' h1 h2 h3], hdn, fun i hi => ⟨(hro i hi).1, by rw [jxs_g _ _ _ _ _ (by decide)]; exact (hro i hi).2⟩, hfp, fun i hi => ?_, fun i hi => by show (if i = d then _ else tr i) = _; rw [if_neg (by omega)]; exact htr i hi, by show (if d = d then _ else tr d) ≤ 8; rw [if_pos rfl]; omega, jdf_no hdf (fun r hr hag e => ?_) (if_pos rfl), ⟨hab1.1, hab1.2.1, by show a ≤ (if 0 = d then _ else tr 0); split <;> omega⟩, fun i hi x hx => by rw [jxs_g _ _ _ _ _ (by decide)]; exact hlt i hi x hx⟩
                  · rw [jxs_at]
                    show _ = nI (if i = d then _ else tr i)
                    by_cases z : i = d
                    · subst z; rw [if_pos ⟨rfl, rfl, rfl⟩, if_pos rfl, nI_add]
                    · rw [if_neg (fun q => z q.2.2), if_neg z]; exact htv i hi
                  · have hfo := (jfq_ext hag).mpr (jVo_fq hr (show d < jct (jcmt h) by omega))
                    rw [e] at hfo
                    exact by obtain ⟨i, y1, y2⟩ := jd_iff.mp h106; exact hfo.2.1 i y1 y2
                · have _b106 := True.intro
                  refine j_aload_n X (q := 110) d_M_tryOrders_109 rfl rfl ?_
                  refine j_iload_n X (q := 111) d_M_tryOrders_110 rfl rfl ?_
                  refine j_iload X (q := 113) d_M_tryOrders_111 rfl rfl ?_
                  refine j_callV X (n := 2) (C := jR5) (T := jT5) (N := 18) d_M_tryOrders_113 (c_M_runs hI hC hw hv (jMs_keep hm ⟨fun g h1 h2 => by rw [jxs_g _ _ _ _ _ (by omega), hf1 g (by omega) (by omega) (by omega), jxs_g _ _ _ _ _ h1], fun j _ h2 => by rw [jxs_g _ _ _ _ _ (by omega), hf1 40 (by decide) (by decide) (by decide), jxs_at, if_neg (fun q => h2 q.2.2)]⟩) (d := d) (t := tr d) (L := fun x => jla (hylt h) row d x) (by omega) (by omega) (fun x hx => by rw [jxs_g _ _ _ _ _ (by decide)]; exact hlt d (Nat.le_refl _) x hx) (fun x hx => jla_lt hw hx (fun i hi => (hro i hi).1))) rfl rfl (hC _ _ (by decide)) wl642 wl643 wl34 wl42 wl644 (by decide +kernel) ⟨rfl, rfl⟩ (by decide) rfl rfl (Nat.le_of_ble_eq_true rfl) rfl (q := 116) rfl (fun r113 τ113 e113 => ?_)
                  obtain ⟨rfl, hg3, hg1, hg2⟩ := e113
                  refine j_bif_eq X (tgt := 138) (q := 119) d_M_tryOrders_116 (by decide) rfl (fun h116 => ?_) (fun h116 => ?_)
                  · have _b116 := True.intro
                    refine j_goto X (tgt := 38) d_M_tryOrders_138 (by decide) ?_
                    refine jxW.to (L' := [some (.inr (40, 0)), some (.inl (nI a)), some (.inl (nI b)), some (.inl (vI (jprd (d + 1)))), none]) (by simp [jfg]; rfl) ?_
                    refine ih (d + 1) _ row (jup tr d (tr d + 1)) (Nat.lt_of_lt_of_le (Nat.add_lt_add_right (jmu_no (n := jct (jcmt h)) (tr := tr) (tr' := jup tr d (tr d + 1)) (d := d) (fun i hi => if_neg (by omega)) (if_pos rfl) (show tr d < 10 by omega)) 1) (Nat.le_of_lt_succ hn)) ⟨fun g' h1 h2 h3 => by rw [hg1 g' h3, jxs_g _ _ _ _ _ h2, hf1 g' h1 h2 h3], hdn, fun i hi => ⟨(hro i hi).1, by rw [hg1 51 (by decide), jxs_g _ _ _ _ _ (by decide)]; exact (hro i hi).2⟩, hfp, fun i hi => ?_, fun i hi => by show (if i = d then _ else tr i) = _; rw [if_neg (by omega)]; exact htr i hi, by show (if d = d then _ else tr d) ≤ 8; rw [if_pos rfl]; omega, jdf_no hdf (fun r hr hag e => ?_) (if_pos rfl), ⟨hab1.1, hab1.2.1, by show a ≤ (if 0 = d then _ else tr 0); split <;> omega⟩, fun i hi x hx => by rw [hg2 _ (by omega), jxs_g _ _ _ _ _ (by decide)]; exact hlt i hi x hx⟩
                    · rw [hg1 52 (by decide), jxs_at]
                      show _ = nI (if i = d then _ else tr i)
                      by_cases z : i = d
                      · subst z; rw [if_pos ⟨rfl, rfl, rfl⟩, if_pos rfl, nI_add]
                      · rw [if_neg (fun q => z q.2.2), if_neg z]; exact htv i hi
                    · have hfo := (jfq_ext hag).mpr (jVo_fq hr (show d < jct (jcmt h) by omega))
                      rw [e] at hfo
                      exact jd_no.mp h116 ((jrE_T hv).mpr hfo.2.2)
                  · have _b116 := True.intro
                    refine j_aload_n X (q := 120) d_M_tryOrders_119 rfl rfl ?_
                    refine j_getR X (C := jR5) (T := jT5) (N := 18) (ci := 5) (j := 14) (q := 123) d_M_tryOrders_120 ju5 rfl rfl rfl (by decide) wl497 rfl (hC _ _ (by decide)) rfl ?_
                    refine j_iload_n X (q := 124) d_M_tryOrders_123 rfl rfl ?_
                    refine j_iload X (q := 126) d_M_tryOrders_124 rfl rfl ?_
                    refine j_iast X (j := d) (q := 127) d_M_tryOrders_126 rfl (by decide) rfl (by omega) (hC _ _ (by decide)) rfl ?_
                    refine j_iload_n X (q := 128) d_M_tryOrders_127 rfl rfl ?_
                    refine j_iconst X (v := (nI 1)) (q := 129) d_M_tryOrders_128 (by decide +kernel) rfl ?_
                    refine j_iadd X (q := 130) d_M_tryOrders_129 rfl ?_
                    refine j_istore_n X (j := 3) (q := 131) d_M_tryOrders_130 rfl (Nat.le_of_ble_eq_true rfl) rfl ?_
                    refine j_aload_n X (q := 132) d_M_tryOrders_131 rfl rfl ?_
                    refine j_getR X (C := jR5) (T := jT5) (N := 18) (ci := 5) (j := 15) (q := 135) d_M_tryOrders_132 ju5 rfl rfl rfl (by decide) wl498 rfl (hC _ _ (by decide)) rfl ?_
                    refine j_iload_n X (q := 136) d_M_tryOrders_135 rfl rfl ?_
                    refine j_iconst X (v := (nI 0)) (q := 137) d_M_tryOrders_136 (by decide +kernel) rfl ?_
                    refine j_iast X (j := d + 1) (q := 138) d_M_tryOrders_137 rfl (by decide) (nI_add d 1) (by omega) (hC _ _ (by decide)) rfl ?_
                    refine j_goto X (tgt := 38) d_M_tryOrders_138 (by decide) ?_
                    refine jxW.to (L' := [some (.inr (40, 0)), some (.inl (nI a)), some (.inl (nI b)), some (.inl (vI (jprd (d + 1 + 1)))), none]) (by simp [jfg]; exact nI_add d 1) ?_
                    have hext : ∀ i, i ≤ d → ∀ j, j < i → (jup row d (tr d)) j = row j := fun i hi j hj => if_neg (by omega)
                    refine ih (d + 1 + 1) _ (jup row d (tr d)) (jup (jup tr d (tr d + 1)) (d + 1) 0) (Nat.lt_of_lt_of_le (Nat.add_lt_add_right (jmu_in (fun i hi => by show (if i = d + 1 then 0 else if i = d then tr d + 1 else tr i) = tr i; rw [if_neg (by omega), if_neg (by omega)]) (by show (if d = d + 1 then 0 else if d = d then tr d + 1 else tr d) = _; rw [if_neg (by omega), if_pos rfl]) (by omega) (by omega)) 1) (Nat.le_of_lt_succ hn)) ⟨fun g' h1 h2 h3 => by rw [jxs_g _ _ _ _ _ h2, jxs_g _ _ _ _ _ h1, hg1 g' h3, jxs_g _ _ _ _ _ h2, hf1 g' h1 h2 h3], by omega, fun i hi => ?_, fun i hi => ?_, fun i hi => ?_, fun i hi => ?_, by show (if d + 1 = d + 1 then 0 else _) ≤ 8; rw [if_pos rfl]; omega, jdf_in hdf (fun i hi => if_neg (by omega)) (if_pos rfl) (fun r hr => by show (if d + 1 = d + 1 then 0 else _) ≤ _; rw [if_pos rfl]; omega), ⟨by show a ≤ (if 0 = d then tr d else row 0); split <;> omega, by show (if 0 = d then tr d else row 0) ≤ b; split <;> omega, by show a ≤ (if 0 = d + 1 then 0 else if 0 = d then tr d + 1 else tr 0); rw [if_neg (by omega)]; split <;> omega⟩, fun i hi x hx => ?_⟩
                    · show (if i = d then tr d else row i) < 8 ∧ _ = nI (if i = d then tr d else row i)
                      rw [jxs_g _ _ _ _ _ (by decide), jxs_at]
                      by_cases z : i = d
                      · subst z; rw [if_pos rfl, if_pos ⟨rfl, rfl, rfl⟩]; exact ⟨by omega, rfl⟩
                      · rw [if_neg z, if_neg (fun q => z q.2.2), hg1 51 (by decide), jxs_g _ _ _ _ _ (by decide)]; exact hro i (by omega)
                    · rw [jfq_ext (hext i (by omega))]
                      show jfq h i (if i = d then tr d else row i) row
                      by_cases z : i = d
                      · subst z; rw [if_pos rfl]; exact ⟨jdec_t h96, fun i hi e => jd_no.mp h106 ⟨i, hi, e⟩, (jrE_T hv).mp (jd_iff.mp h116)⟩
                      · rw [if_neg z]; exact hfp i (by omega)
                    · show _ = nI (if i = d + 1 then 0 else if i = d then tr d + 1 else tr i)
                      rw [jxs_at]
                      by_cases z : i = d + 1
                      · subst z; rw [if_pos ⟨rfl, rfl, rfl⟩, if_pos rfl]
                      · rw [if_neg (fun q => z q.2.2), if_neg z, jxs_g _ _ _ _ _ (by decide), hg1 52 (by decide), jxs_at]
                        by_cases z2 : i = d
                        · subst z2; rw [if_pos ⟨rfl, rfl, rfl⟩, if_pos rfl, nI_add]
                        · rw [if_neg (fun q => z2 q.2.2), if_neg z2]; exact htv i (by omega)
                    · show (if i = d + 1 then 0 else if i = d then tr d + 1 else tr i) = (if i = d then tr d else row i) + 1
                      rw [if_neg (by omega)]
                      by_cases z : i = d
                      · rw [if_pos z, if_pos z]
                      · rw [if_neg z, if_neg z]; exact htr i (by omega)
                    · rw [jxs_g _ _ _ _ _ (by decide), jxs_g _ _ _ _ _ (by decide)]
                      by_cases z : i = d + 1
                      · subst z
                        rw [jla_succ, show (jup row d (tr d)) d = tr d from if_pos rfl, jla_ext d (hext d (Nat.le_refl _)), show 6 * (d + 1) + x = 6 * d + 6 + x by omega]
                        exact hg3 (jd_iff.mp h116) x hx
                      · rw [jla_ext i (hext i (by omega)), hg2 _ (by omega), jxs_g _ _ _ _ _ (by decide)]
                        exact hlt i (by omega) x hx
            · have _b80 := True.intro
              refine j_iload_n X (q := 84) d_M_tryOrders_83 rfl rfl ?_
              refine j_iconst X (v := (nI 1)) (q := 85) d_M_tryOrders_84 (by decide +kernel) rfl ?_
              refine j_isub X (q := 86) d_M_tryOrders_85 rfl ?_
              refine j_istore_n X (j := 3) (q := 87) d_M_tryOrders_86 rfl (Nat.le_of_ble_eq_true rfl) rfl ?_
              refine j_goto X (tgt := 138) d_M_tryOrders_87 (by decide) ?_
              refine j_goto X (tgt := 38) d_M_tryOrders_138 (by decide) ?_
              refine jxW.to (L' := [some (.inr (40, 0)), some (.inl (nI a)), some (.inl (nI b)), some (.inl (vI (jprd d))), none]) (by simp [jfg]; exact j_prd d) ?_
              cases d with
              | zero =>
                exact ih 0 _ row tr (by have h0 : jmu (jct (jcmt h)) tr 0 + 1 < N + 1 := hn; show 0 < N; omega) ⟨fun g' h1 h2 h3 => by rw [jxs_g _ _ _ _ _ h2, hf1 g' h1 h2 h3], jdf_none hdf (fun r hr => by have := hr.2.2.2; have := hhi0 rfl; omega)⟩
              | succ d =>
                refine ih (d + 1) _ row tr (Nat.lt_of_lt_of_le (Nat.add_lt_add_right (jmu_out (tr' := tr) (fun i _ => rfl) (by omega)) 1) (Nat.le_of_lt_succ hn)) ⟨fun g' h1 h2 h3 => by rw [jxs_g _ _ _ _ _ h2, hf1 g' h1 h2 h3], by omega, fun i hi => by rw [jxs_g _ _ _ _ _ (by decide)]; exact hro i (by omega), fun i hi => hfp i (by omega), fun i hi => by rw [jxs_at, if_neg (by omega)]; exact htv i (by omega), fun i hi => htr i (by omega), by rw [htr d (by omega)]; have := (hro d (by omega)).1; omega, jdf_out hdf (fun r hr _ => by have := (hr.1.1 (d + 1) (by omega)).1; have := hhi1 (by omega); omega) (htr d (by omega)), hab1, fun i hi x hx => by rw [jxs_g _ _ _ _ _ (by decide)]; exact hlt i (by omega) x hx⟩
          refine j_iload X (q := 70) d_M_tryOrders_68 rfl rfl ?_
          refine j_iload_n X (q := 71) d_M_tryOrders_70 rfl rfl ?_
          refine j_nif_ne X (tgt := 78) (q := 74) d_M_tryOrders_71 (by decide) rfl (by omega) (fun h71 => ?_) (fun h71 => ?_)
          · have _b71 := True.intro
            refine j_bipush X (v := (nI 7)) (q := 80) d_M_tryOrders_78 (by decide +kernel) rfl ?_
            exact J80 7 (by omega) (fun q => absurd q h71) (fun _ => rfl)
          · have _b71 := True.intro
            refine j_iload_n X (q := 75) d_M_tryOrders_74 rfl rfl ?_
            refine j_goto X (tgt := 80) d_M_tryOrders_75 (by decide) ?_
            exact J80 b (by omega) (fun _ => rfl) (fun q => absurd h71 q)
  have K0 : ∀ (N : Nat) (x : Nat) (σ1 : jxM), 6 - x < N → x ≤ 6 → (∀ y, y < x → σ1 53 0 y = -1) → (∀ g', g' ≠ 53 → σ1 g' = (jxs σ 40 0 16 (nI (jct (jcmt h)))) g') → jxW Γ Θ (fun r' σ' => (∃ z : Bool, r' = some (.inl (jB z)) ∧ (z = false → ∀ r, ¬ jVo h a b (jct (jcmt h)) r) ∧ (z = true → ∃ row, (∀ i, i < jct (jcmt h) → row i < 8 ∧ σ' 51 0 i = nI (row i)) ∧ jVo h a b (jct (jcmt h)) row ∧ ∀ r, jVo h a b (jct (jcmt h)) r → jlx (jct (jcmt h)) row r)) ∧ σ' 40 0 16 = nI (jct (jcmt h)) ∧ (∀ g', g' ≠ 40 → g' ≠ 51 → g' ≠ 52 → g' ≠ 53 → σ' g' = σ g') ∧ ∀ j, j ≠ 16 → σ' 40 0 j = σ 40 0 j) 10 [some (.inr (40, 0)), some (.inl (nI a)), some (.inl (nI b)), some (.inl (nI x)), none] [] σ1 := by
    intro N
    induction N with
    | zero => intro x σ1 hn; exact absurd hn (Nat.not_lt_zero _)
    | succ N ih =>
      intro x σ1 hn hx hc0 hf0
      refine j_iload_n X (q := 11) d_M_tryOrders_10 rfl rfl ?_
      refine j_bipush X (v := (nI 6)) (q := 13) d_M_tryOrders_11 (by decide +kernel) rfl ?_
      refine j_ncmp_ge X (tgt := 29) (q := 16) d_M_tryOrders_13 (by decide) rfl (by omega) (by omega) (fun h13 => ?_) (fun h13 => ?_)
      · have _b13 := True.intro
        refine j_iconst X (v := (nI 0)) (q := 30) d_M_tryOrders_29 (by decide +kernel) rfl ?_
        refine j_istore_n X (j := 3) (q := 31) d_M_tryOrders_30 rfl (Nat.le_of_ble_eq_true rfl) rfl ?_
        refine j_aload_n X (q := 32) d_M_tryOrders_31 rfl rfl ?_
        refine j_getR X (C := jR5) (T := jT5) (N := 18) (ci := 5) (j := 15) (q := 35) d_M_tryOrders_32 ju5 rfl rfl rfl (by decide) wl498 rfl (hC _ _ (by decide)) rfl ?_
        refine j_iconst X (v := (nI 0)) (q := 36) d_M_tryOrders_35 (by decide +kernel) rfl ?_
        refine j_iload_n X (q := 37) d_M_tryOrders_36 rfl rfl ?_
        refine j_iast X (j := 0) (q := 38) d_M_tryOrders_37 rfl (by decide) rfl (by omega) (hC _ _ (by decide)) rfl ?_
        refine jxW.to (L' := [some (.inr (40, 0)), some (.inl (nI a)), some (.inl (nI b)), some (.inl (vI (jprd (0 + 1)))), none]) (by simp [jfg, jprd, vI]) ?_
        exact K (jmuD (jct (jcmt h)) (fun _ => a) (0 + 1) + 1) (0 + 1) _ (fun _ => a) (fun _ => a) (by omega) (jIo_0 (by omega) hab (fun g' h1 h2 h3 => by rw [jxs_g _ _ _ _ _ h2, hf0 g' h3]) (fun x hx => by rw [jxs_g _ _ _ _ _ (by decide)]; exact hc0 x (by omega)) (by rw [jxs_at, if_pos ⟨rfl, rfl, rfl⟩]))
      · have _b13 := True.intro
        refine j_aload_n X (q := 17) d_M_tryOrders_16 rfl rfl ?_
        refine j_getR X (C := jR5) (T := jT5) (N := 18) (ci := 5) (j := 17) (q := 20) d_M_tryOrders_17 ju5 rfl rfl rfl (by decide) wl500 rfl (hC _ _ (by decide)) rfl ?_
        refine j_iload_n X (q := 21) d_M_tryOrders_20 rfl rfl ?_
        refine j_iconst X (v := (-1)) (q := 22) d_M_tryOrders_21 (by decide +kernel) rfl ?_
        refine j_iast X (q := 23) d_M_tryOrders_22 rfl (by decide) rfl (by omega) (hC _ _ (by decide)) rfl ?_
        refine j_iinc X (q := 26) d_M_tryOrders_23 rfl (j_inc1 _) rfl ?_
        refine j_goto X (tgt := 10) d_M_tryOrders_26 (by decide) ?_
        refine ih (x + 1) _ (by omega) (by omega) (fun y hy => ?_) (fun g' hg => by rw [jxs_g _ _ _ _ _ hg, hf0 g' hg])
        rw [jxs_at]
        by_cases z : y = x
        · subst z; rw [if_pos ⟨rfl, rfl, rfl⟩]
        · rw [if_neg (by omega)]; exact hc0 y (by omega)
  refine j_iconst X (v := (nI 0)) (q := 9) d_M_tryOrders_8 (by decide +kernel) rfl ?_
  refine j_istore_n X (j := 3) (q := 10) d_M_tryOrders_9 rfl (Nat.le_of_ble_eq_true rfl) rfl ?_
  exact K0 7 0 _ (by omega) (by omega) (fun x hx => by omega) (fun _ _ => rfl)
