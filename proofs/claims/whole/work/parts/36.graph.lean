/-! The graph: the edges among committed transactions. -/
/-- the locals L' are known where L are -/
def jfg : List (Option jxV) → List (Option jxV) → Prop
  | [], [] => True
  | _ :: l, none :: l' => jfg l l'
  | a :: l, some b :: l' => a = some b ∧ jfg l l'
  | _, _ => False
theorem jfg_len : ∀ (L L' : List (Option jxV)), jfg L L' → L.length = L'.length
  | [], [], _ => rfl
  | _ :: l, none :: l', h => by
    have h : jfg l l' := h
    simp [jfg_len l l' h]
  | a :: l, some b :: l', h => by
    have h : a = some b ∧ jfg l l' := h
    simp [jfg_len l l' h.2]
  | [], _ :: _, h => by cases h
  | _ :: _, [], h => by cases h
theorem jfg_at : ∀ (L L' : List (Option jxV)), jfg L L' → ∀ (i : Nat) (v : jxV), L'[i]? = some (some v) → L[i]? = some (some v)
  | [], [], _, i, v, hi => by simp at hi
  | a :: l, none :: l', h, i, v, hi => by
    have h : jfg l l' := h
    cases i with
    | zero => simp at hi
    | succ i => simpa using jfg_at l l' h i v (by simpa using hi)
  | a :: l, some b :: l', h, i, v, hi => by
    have h : a = some b ∧ jfg l l' := h
    cases i with
    | zero => simpa [h.1] using hi
    | succ i => simpa using jfg_at l l' h.2 i v (by simpa using hi)
  | [], _ :: _, h, _, _, _ => by cases h
  | _ :: _, [], h, _, _, _ => by cases h
theorem jxW.to {Γ : jxG} {Θ : jxT} {Φ : jxF} {pc : Nat} {L L' : List (Option jxV)} {st : List jxV} {σ : jxM} (h : jfg L L') (k : jxW Γ Θ Φ pc L' st σ) : jxW Γ Θ Φ pc L st σ := by
  obtain ⟨p, l', e, R, s, m, args, below, meth, c, A⟩ := Γ
  intro H locs ls hP hS hl
  exact k H locs ls hP hS ⟨hl.1.trans (jfg_len L L' h), hl.2.1, fun i v hi => hl.2.2 i v (jfg_at L L' h i v hi)⟩
/-- the row of sets in group g: who leads where -/
def jGb (g : Nat) (E : Nat → Nat → Bool) (σ : jxM) : Prop := ∀ a, a < 8 → σ g 0 a = bI (E a)
def jGs (g : Nat) (E : Nat → Nat → Prop) (σ : jxM) : Prop := jGb g (fun a b => jd (E a b)) σ
theorem jGs_ext {g : Nat} {E F : Nat → Nat → Prop} {σ : jxM} (h : jGs g E σ) (e : ∀ a b, a < 8 → b < 8 → (E a b ↔ F a b)) : jGs g F σ := fun a ha => by
  rw [h a ha]
  exact bI_ext (fun b hb => jd_ext (e a b ha hb))
theorem jGs_keep {g : Nat} {E : Nat → Nat → Prop} {σ σ' : jxM} (h : jGs g E σ) (e : σ' g = σ g) : jGs g E σ' := fun a ha => by rw [e]; exact h a ha
theorem jGb_keep {g : Nat} {E : Nat → Nat → Bool} {σ σ' : jxM} (h : jGb g E σ) (e : σ' g = σ g) : jGb g E σ' := fun a ha => by rw [e]; exact h a ha
theorem jGs_add {g a b : Nat} {E : Nat → Nat → Prop} {σ : jxM} (h : jGs g E σ) (ha : a < 8) (hne : a ≠ b) : jGs g (fun a' b' => E a' b' ∨ (a' = a ∧ b' = b ∧ a ≠ b)) (jxs σ g 0 a (bI (fun i => jd (E a i) || decide (i = b)))) := by
  intro a' ha'
  rw [jxs_at]
  by_cases e : a' = a
  · subst e
    rw [if_pos ⟨rfl, rfl, rfl⟩]
    refine bI_ext (fun i hi => ?_)
    rw [Bool.eq_iff_iff, Bool.or_eq_true, jd_iff, jd_iff, decide_eq_true_eq]
    exact ⟨fun q => q.elim Or.inl (fun z => Or.inr ⟨rfl, z, hne⟩), fun q => q.elim Or.inl (fun z => Or.inr z.2.1)⟩
  · rw [if_neg (fun q => e q.2.2), h a' ha']
    refine bI_ext (fun i hi => jd_ext ?_)
    exact ⟨Or.inl, fun q => q.elim id (fun z => absurd z.1 e)⟩
set_option maxRecDepth 100000 in
set_option maxHeartbeats 4000000 in
theorem c_G_join {l : Launch} {Θ : jxT} (hI : jxI Θ) {g a b : Nat} {E : Nat → Nat → Prop} {σ : jxM} (hk : jxk g = .inr (.inl (0, 8))) (hp : Θ.2.2.2 g 0) (ha : a < 8) (hb : b < 8) (hE : jGs g E σ) : jxMet l y_G_join b_G_join 3 none (jrm 2) Θ [.inr (g, 0), .inl (nI a), .inl (nI b)] σ (fun r σ' => r = none ∧ jGs g (fun a' b' => E a' b' ∨ (a' = a ∧ b' = b ∧ a ≠ b)) σ' ∧ ∀ g', g' ≠ g → σ' g' = σ g') := by
  refine jxMet.of (own := "HistoryJudge$Graph") hI (by decide) rfl (Nat.le_of_ble_eq_true rfl) (fun Γ X => ?_)
  show jxW Γ Θ (fun r σ' => r = none ∧ jGs g (fun a' b' => E a' b' ∨ (a' = a ∧ b' = b ∧ a ≠ b)) σ' ∧ ∀ g', g' ≠ g → σ' g' = σ g') 0 [some (.inr (g, 0)), some (.inl (nI a)), some (.inl (nI b))] [] σ
  refine j_iload_n X (q := 1) d_G_join_0 rfl rfl ?_
  refine j_iload_n X (q := 2) d_G_join_1 rfl rfl ?_
  refine j_ncmp_eq X (tgt := 15) (q := 5) d_G_join_2 (by decide) rfl (by omega) (by omega) (fun h2 => ?_) (fun h2 => ?_)
  · have _b2 := True.intro
    refine j_vret X d_G_join_15 ?_
    exact ⟨rfl, jGs_ext hE (fun a1 b1 _ _ => ⟨Or.inl, fun q => q.elim id (fun z => absurd h2 z.2.2)⟩), fun _ _ => rfl⟩
  · have _b2 := True.intro
    refine j_aload_n X (q := 6) d_G_join_5 rfl rfl ?_
    refine j_iload_n X (q := 7) d_G_join_6 rfl rfl ?_
    refine j_dup2 X (q := 8) d_G_join_7 rfl ?_
    refine j_iald X (q := 9) d_G_join_8 hk (by decide) rfl ha hp rfl (hE a ha) ?_
    refine j_iload_n X (q := 10) d_G_join_9 rfl rfl ?_
    refine j_callSN X (n := 1) d_G_join_10 (c_J_only hI hb σ) wl208 nl3 wl36 wl207 (by decide +kernel) ⟨rfl, rfl⟩ (by decide) rfl rfl (Nat.le_of_ble_eq_true rfl) rfl (q := 13) rfl (fun r10 τ10 e10 => ?_)
    obtain ⟨rfl, rfl⟩ := e10
    refine j_ior X (q := 14) d_G_join_13 rfl ?_
    refine j_iast X (q := 15) d_G_join_14 hk (by decide) rfl ha hp rfl ?_
    refine j_vret X d_G_join_15 ?_
    rw [bI_or]
    exact ⟨rfl, jGs_add hE ha h2, fun g' hg => jxs_g _ _ _ _ _ hg⟩
def jwwx (h : jH) (x n a b : Nat) : Prop := ∃ i, 0 < i ∧ i < n ∧ hyW h (hyod h x (i - 1)) = a ∧ hyW h (hyod h x i) = b ∧ a ≠ b
theorem jwwx_succ {h : jH} {x i a b : Nat} (hi : 0 < i) : jwwx h x (i + 1) a b ↔ jwwx h x i a b ∨ (a = hyW h (hyod h x (i - 1)) ∧ b = hyW h (hyod h x i) ∧ hyW h (hyod h x (i - 1)) ≠ hyW h (hyod h x i)) := by
  constructor
  · rintro ⟨j, h1, h2, h3, h4, h5⟩
    by_cases e : j = i
    · subst e; exact Or.inr ⟨h3.symm, h4.symm, by rw [h3, h4]; exact h5⟩
    · exact Or.inl ⟨j, h1, by omega, h3, h4, h5⟩
  · rintro (⟨j, h1, h2, h3⟩ | ⟨rfl, rfl, h3⟩)
    · exact ⟨j, h1, by omega, h3⟩
    · exact ⟨i, hi, by omega, rfl, rfl, h3⟩
set_option maxRecDepth 100000 in
set_option maxHeartbeats 4000000 in
theorem c_G_drawOrder {l : Launch} {Θ : jxT} (hI : jxI Θ) (hC : ∀ g r, r < jrwJ g → Θ.2.2.2 g r) {h : jH} {σ : jxM} (hw : jHw h) (hs : jHs h σ) {E : Nat → Nat → Prop} (hE : jGs 21 E σ) {x : Nat} (hx : x < 6) : jxMet l y_G_drawOrder b_G_drawOrder 5 none (jrm 3) Θ [.inr (20, 0), .inr (1, 0), .inl (nI x)] σ (fun r σ' => r = none ∧ jGs 21 (fun a b => E a b ∨ jwwx h x (hyon h x) a b) σ' ∧ ∀ g', g' ≠ 21 → σ' g' = σ g') := by
  refine jxMet.of (own := "HistoryJudge$Graph") hI (by decide) rfl (Nat.le_of_ble_eq_true rfl) (fun Γ X => ?_)
  show jxW Γ Θ (fun r σ' => r = none ∧ jGs 21 (fun a b => E a b ∨ jwwx h x (hyon h x) a b) σ' ∧ ∀ g', g' ≠ 21 → σ' g' = σ g') 0 [some (.inr (20, 0)), some (.inr (1, 0)), some (.inl (nI x)), none, none] [] σ
  have bV := jHw_V hw
  have bO := jHw_on hw hx
  have K : ∀ (N : Nat) (i : Nat) (σ1 : jxM), 9 - i < N → 0 < i ∧ (i ≤ hyon h x ∨ i = 1) → jGs 21 (fun a b => E a b ∨ jwwx h x i a b) σ1 → (∀ g', g' ≠ 21 → σ1 g' = σ g') → jxW Γ Θ (fun r σ' => r = none ∧ jGs 21 (fun a b => E a b ∨ jwwx h x (hyon h x) a b) σ' ∧ ∀ g', g' ≠ 21 → σ' g' = σ g') 10 [some (.inr (20, 0)), some (.inr (1, 0)), some (.inl (nI x)), some (.inr (12, x)), some (.inl (nI i))] [] σ1 := by
    intro N
    induction N with
    | zero => intro i σ1 hn; exact absurd hn (Nat.not_lt_zero _)
    | succ N ih =>
      intro i σ1 hn hi hE1 hf1
      refine j_iload X (q := 12) d_G_drawOrder_10 rfl rfl ?_
      have hs1 : jHs h σ1 := jHs_keep hs (fun g hg => hf1 g (by omega))
      refine j_aload_n X (q := 13) d_G_drawOrder_12 rfl rfl ?_
      refine j_getR X (C := jR2) (T := jT2) (N := 12) (ci := 2) (j := 11) (q := 16) d_G_drawOrder_13 ju2 rfl rfl rfl (by decide) wl101 rfl (hC _ _ (by decide)) rfl ?_
      refine j_iload_n X (q := 17) d_G_drawOrder_16 rfl rfl ?_
      refine j_iald X (q := 18) d_G_drawOrder_17 rfl (by decide) rfl (by omega) (hC _ _ (by decide)) rfl (jHs_on hs1 hx) ?_
      refine j_ncmp_ge X (tgt := 54) (q := 21) d_G_drawOrder_18 (by decide) rfl (by omega) (by omega) (fun h18 => ?_) (fun h18 => ?_)
      · have _b18 := True.intro
        refine j_vret X d_G_drawOrder_54 ?_
        refine ⟨rfl, jGs_ext hE1 (fun a b _ _ => ?_), hf1⟩
        constructor
        · rintro (q | ⟨j, h1, h2, h3⟩)
          · exact Or.inl q
          · by_cases z : j < hyon h x
            · exact Or.inr ⟨j, h1, z, h3⟩
            · omega
        · rintro (q | ⟨j, h1, h2, h3⟩)
          · exact Or.inl q
          · exact Or.inr ⟨j, h1, by omega, h3⟩
      · have _b18 := True.intro
        have bo := (jHw_od hw hx (show i < hyon h x by omega)).1
        have bo1 := (jHw_od hw hx (show i - 1 < hyon h x by omega)).1
        refine j_aload_n X (q := 22) d_G_drawOrder_21 rfl rfl ?_
        refine j_getR X (C := jR1) (T := jT1) (N := 3) (ci := 1) (j := 0) (q := 25) d_G_drawOrder_22 ju1 rfl rfl rfl (by decide) wl121 rfl (hC _ _ (by decide)) rfl ?_
        refine j_aload_n X (q := 26) d_G_drawOrder_25 rfl rfl ?_
        refine j_getR X (C := jR2) (T := jT2) (N := 12) (ci := 2) (j := 1) (q := 29) d_G_drawOrder_26 ju2 rfl rfl rfl (by decide) wl76 rfl (hC _ _ (by decide)) rfl ?_
        refine j_aload_n X (q := 30) d_G_drawOrder_29 rfl rfl ?_
        refine j_iload X (q := 32) d_G_drawOrder_30 rfl rfl ?_
        refine j_iconst X (v := (nI 1)) (q := 33) d_G_drawOrder_32 (by decide +kernel) rfl ?_
        refine j_isub X (q := 34) d_G_drawOrder_33 rfl ?_
        refine j_iald X (j := i - 1) (q := 35) d_G_drawOrder_34 rfl (by decide) (pk_sub (by omega)) (by omega) (hC _ _ (by show _ < 6; omega)) rfl (jHs_od hs1 hx (by omega)) ?_
        refine j_iald X (q := 36) d_G_drawOrder_35 rfl (by decide) rfl (by omega) (hC _ _ (by decide)) rfl (jHs_W hs1 bo1) ?_
        refine j_aload_n X (q := 37) d_G_drawOrder_36 rfl rfl ?_
        refine j_getR X (C := jR2) (T := jT2) (N := 12) (ci := 2) (j := 1) (q := 40) d_G_drawOrder_37 ju2 rfl rfl rfl (by decide) wl76 rfl (hC _ _ (by decide)) rfl ?_
        refine j_aload_n X (q := 41) d_G_drawOrder_40 rfl rfl ?_
        refine j_iload X (q := 43) d_G_drawOrder_41 rfl rfl ?_
        refine j_iald X (q := 44) d_G_drawOrder_43 rfl (by decide) rfl (by omega) (hC _ _ (by show _ < 6; omega)) rfl (jHs_od hs1 hx (by omega)) ?_
        refine j_iald X (q := 45) d_G_drawOrder_44 rfl (by decide) rfl (by omega) (hC _ _ (by decide)) rfl (jHs_W hs1 bo) ?_
        refine j_callS X (n := 3) d_G_drawOrder_45 (c_G_join hI (g := 21) rfl (hC _ _ (by decide)) (jHw_W hw bo1) (jHw_W hw bo) hE1) wl204 wl205 wl39 wl206 (by decide +kernel) ⟨rfl, rfl⟩ (by decide) rfl rfl (Nat.le_of_ble_eq_true rfl) rfl (q := 48) rfl (fun r45 τ45 e45 => ?_)
        obtain ⟨rfl, hE2, hf2⟩ := e45
        refine j_iinc X (q := 51) d_G_drawOrder_48 rfl (j_inc1 _) rfl ?_
        refine j_goto X (tgt := 10) d_G_drawOrder_51 (by decide) ?_
        refine jxW.to (L' := [some (.inr (20, 0)), some (.inr (1, 0)), some (.inl (nI x)), some (.inr (12, x)), some (.inl (nI (i + 1)))]) (by simp [jfg]) ?_
        exact ih (i + 1) _ (by omega) (by omega) (jGs_ext hE2 (fun a b _ _ => by rw [jwwx_succ hi.1, or_assoc])) (fun g hg => by rw [hf2 g hg, hf1 g hg])
  refine j_aload_n X (q := 1) d_G_drawOrder_0 rfl rfl ?_
  refine j_getR X (C := jR2) (T := jT2) (N := 12) (ci := 2) (j := 10) (q := 4) d_G_drawOrder_1 ju2 rfl rfl rfl (by decide) wl98 rfl (hC _ _ (by decide)) rfl ?_
  refine j_iload_n X (q := 5) d_G_drawOrder_4 rfl rfl ?_
  refine j_aald X (q := 6) d_G_drawOrder_5 rfl (by decide) rfl (by omega) (hC _ _ (by decide)) rfl ?_
  refine j_astore_n X (j := 3) (q := 7) d_G_drawOrder_6 rfl (Nat.le_of_ble_eq_true rfl) rfl ?_
  refine j_iconst X (v := (nI 1)) (q := 8) d_G_drawOrder_7 (by decide +kernel) rfl ?_
  refine j_istore X (q := 10) d_G_drawOrder_8 (Nat.le_of_ble_eq_true rfl) rfl ?_
  refine jxW.to (L' := [some (.inr (20, 0)), some (.inr (1, 0)), some (.inl (nI x)), some (.inr (12, x)), some (.inl (nI 1))]) (by simp [jfg]) ?_
  exact K 9 1 σ (by omega) (by omega) (jGs_ext hE (fun a b _ _ => ⟨Or.inl, fun q => q.elim id (fun ⟨j, h1, h2, _⟩ => by omega)⟩)) (fun _ _ => rfl)
theorem jnwr_fun {h : jH} (hw : jHw h) {x : Nat} (hx : x < 6) {o o1 o2 : Option Nat} (h1 : jnwr h x o o1) (h2 : jnwr h x o o2) : o1 = o2 := by
  rcases h1 with ⟨rfl, a1, a2⟩ | ⟨i, b1, b2, rfl⟩
  · rcases h2 with ⟨rfl, -⟩ | ⟨j, c1, c2, rfl⟩
    · rfl
    · exfalso
      rcases c2 with ⟨e, c⟩ | ⟨c, e⟩
      · have := a1 e; omega
      · exact a2 _ e (j - 1) (by omega) rfl
  · rcases h2 with ⟨rfl, a1, a2⟩ | ⟨j, c1, c2, rfl⟩
    · exfalso
      rcases b2 with ⟨e, c⟩ | ⟨c, e⟩
      · have := a1 e; omega
      · exact a2 _ e (i - 1) (by omega) rfl
    · have e : i = j := by
        rcases b2 with ⟨e, c⟩ | ⟨c, e⟩
        · rcases c2 with ⟨e', c'⟩ | ⟨c', e'⟩
          · omega
          · rw [e] at e'; cases e'
        · rcases c2 with ⟨e', c'⟩ | ⟨c', e'⟩
          · rw [e'] at e; cases e
          · rw [e] at e'
            have := jHw_inj hw hx (show i - 1 < hyon h x by omega) (show j - 1 < hyon h x by omega) (Option.some.inj e')
            omega
      rw [e]
def jwrr (h : jH) (r a b : Nat) : Prop := ∃ v, hyrv h r = some v ∧ hyS h (hyW h v) = 2 ∧ a = hyW h v ∧ b = hyrd h r ∧ hyW h v ≠ hyrd h r
def jrwr (h : jH) (r a b : Nat) : Prop := ∃ w, jnwr h (hyri h r) (hyrv h r) (some w) ∧ a = hyrd h r ∧ b = w ∧ hyrd h r ≠ w
set_option maxRecDepth 100000 in
set_option maxHeartbeats 4000000 in
theorem c_G_drawRead {l : Launch} {Θ : jxT} (hI : jxI Θ) (hC : ∀ g r, r < jrwJ g → Θ.2.2.2 g r) {h : jH} {σ : jxM} (hw : jHw h) (hs : jHs h σ) {E1 E2 : Nat → Nat → Prop} (hE1 : jGs 22 E1 σ) (hE2 : jGs 23 E2 σ) {r : Nat} (hr : r < hyR h) : jxMet l y_G_drawRead b_G_drawRead 6 none (jrm 3) Θ [.inr (20, 0), .inr (1, 0), .inl (nI r)] σ (fun r' σ' => r' = none ∧ jGs 22 (fun a b => E1 a b ∨ jwrr h r a b) σ' ∧ jGs 23 (fun a b => E2 a b ∨ jrwr h r a b) σ' ∧ ∀ g', g' ≠ 22 → g' ≠ 23 → σ' g' = σ g') := by
  refine jxMet.of (own := "HistoryJudge$Graph") hI (by decide) rfl (Nat.le_of_ble_eq_true rfl) (fun Γ X => ?_)
  show jxW Γ Θ (fun r' σ' => r' = none ∧ jGs 22 (fun a b => E1 a b ∨ jwrr h r a b) σ' ∧ jGs 23 (fun a b => E2 a b ∨ jrwr h r a b) σ' ∧ ∀ g', g' ≠ 22 → g' ≠ 23 → σ' g' = σ g') 0 [some (.inr (20, 0)), some (.inr (1, 0)), some (.inl (nI r)), none, none, none] [] σ
  have bV := jHw_V hw
  have bR := jHw_R hw
  have b1 := jHw_rd hw hr
  have b2 := jHw_ri hw hr
  have bm := vI_m1 (hyrv h r) (fun v hv => by have := (jHw_rv hw hr hv).1; omega)
  have K : ∀ (σ1 : jxM), jGs 22 (fun a b => E1 a b ∨ jwrr h r a b) σ1 → jGs 23 E2 σ1 → (∀ g', g' ≠ 22 → σ1 g' = σ g') → jxW Γ Θ (fun r' σ' => r' = none ∧ jGs 22 (fun a b => E1 a b ∨ jwrr h r a b) σ' ∧ jGs 23 (fun a b => E2 a b ∨ jrwr h r a b) σ' ∧ ∀ g', g' ≠ 22 → g' ≠ 23 → σ' g' = σ g') 50 [some (.inr (20, 0)), some (.inr (1, 0)), some (.inl (nI r)), some (.inl (nI (hyrd h r))), some (.inl (vI (hyrv h r))), none] [] σ1 := by
    intro σ1 hE13 hE23 hf13
    have hs1 : jHs h σ1 := jHs_keep hs (fun g hg => hf13 g (by omega))
    refine j_aload_n X (q := 51) d_G_drawRead_50 rfl rfl ?_
    refine j_aload_n X (q := 52) d_G_drawRead_51 rfl rfl ?_
    refine j_getR X (C := jR2) (T := jT2) (N := 12) (ci := 2) (j := 5) (q := 55) d_G_drawRead_52 ju2 rfl rfl rfl (by decide) wl85 rfl (hC _ _ (by decide)) rfl ?_
    refine j_iload_n X (q := 56) d_G_drawRead_55 rfl rfl ?_
    refine j_iald X (q := 57) d_G_drawRead_56 rfl (by decide) rfl (by omega) (hC _ _ (by decide)) rfl (jHs_ri hs1 hr) ?_
    refine j_iload X (q := 59) d_G_drawRead_57 rfl rfl ?_
    refine j_callV X (n := 2) (C := jR2) (T := jT2) (N := 12) d_G_drawRead_59 (c_H_writerOfNext hI (fun g r q => hC g r (jHJ q)) hw hs1 (x := hyri h r) (o := hyrv h r) b2 (fun v hv => (jHw_rv hw hr hv).1)) rfl rfl (hC _ _ (by decide)) wl216 wl217 wl218 wl37 wl219 (by decide +kernel) ⟨rfl, rfl⟩ (by decide) rfl rfl (Nat.le_of_ble_eq_true rfl) rfl (q := 62) rfl (fun r59 τ59 e59 => ?_)
    obtain ⟨o2, rfl, rfl, ho8, hnx⟩ := e59
    refine j_istore X (q := 64) d_G_drawRead_62 (Nat.le_of_ble_eq_true rfl) rfl ?_
    refine j_iload X (q := 66) d_G_drawRead_64 rfl rfl ?_
    refine j_iconst X (v := (-1)) (q := 67) d_G_drawRead_66 (by decide +kernel) rfl ?_
    refine j_icmp_eq X (tgt := 80) (q := 70) d_G_drawRead_67 (by decide) rfl (fun h67 => ?_) (fun h67 => ?_)
    · have _b67 := True.intro
      have bn := (vI_m1 o2 (fun w hw2 => by have := ho8 w hw2; omega)).mp h67
      refine j_vret X d_G_drawRead_80 ?_
      exact ⟨rfl, hE13, jGs_ext hE23 (fun a b _ _ => ⟨Or.inl, fun q => q.elim id (fun ⟨w, q1, _⟩ => by have := jnwr_fun hw b2 q1 hnx; rw [bn] at this; cases this)⟩), fun g' h1 _ => hf13 g' h1⟩
    · have _b67 := True.intro
      obtain ⟨w, ew⟩ : ∃ w, o2 = some w := by
        cases e : o2 with
        | some w => exact ⟨w, rfl⟩
        | none => exact absurd ((vI_m1 o2 (fun w hw2 => by have := ho8 w hw2; omega)).mpr e) h67
      subst ew
      have b8 := ho8 w rfl
      refine j_aload_n X (q := 71) d_G_drawRead_70 rfl rfl ?_
      refine j_getR X (C := jR1) (T := jT1) (N := 3) (ci := 1) (j := 2) (q := 74) d_G_drawRead_71 ju1 rfl rfl rfl (by decide) wl127 rfl (hC _ _ (by decide)) rfl ?_
      refine j_iload_n X (q := 75) d_G_drawRead_74 rfl rfl ?_
      refine j_iload X (q := 77) d_G_drawRead_75 rfl rfl ?_
      refine j_callS X (n := 3) d_G_drawRead_77 (c_G_join hI (g := 23) (b := w) rfl (hC _ _ (by decide)) b1 b8 hE23) wl204 wl205 wl39 wl206 (by decide +kernel) ⟨rfl, rfl⟩ (by decide) rfl rfl (Nat.le_of_ble_eq_true rfl) rfl (q := 80) rfl (fun r77 τ77 e77 => ?_)
      obtain ⟨rfl, hE4, hf4⟩ := e77
      refine j_vret X d_G_drawRead_80 ?_
      refine ⟨rfl, jGs_keep hE13 (hf4 22 (by decide)), jGs_ext hE4 (fun a b _ _ => ⟨fun q => q.elim Or.inl (fun z => Or.inr ⟨w, hnx, z⟩), fun q => q.elim Or.inl (fun ⟨u, q1, z⟩ => ?_)⟩), fun g' h1 h2 => by rw [hf4 g' h2, hf13 g' h1]⟩
      have := jnwr_fun hw b2 q1 hnx
      cases this
      exact Or.inr z
  refine j_aload_n X (q := 1) d_G_drawRead_0 rfl rfl ?_
  refine j_getR X (C := jR2) (T := jT2) (N := 12) (ci := 2) (j := 4) (q := 4) d_G_drawRead_1 ju2 rfl rfl rfl (by decide) wl82 rfl (hC _ _ (by decide)) rfl ?_
  refine j_iload_n X (q := 5) d_G_drawRead_4 rfl rfl ?_
  refine j_iald X (q := 6) d_G_drawRead_5 rfl (by decide) rfl (by omega) (hC _ _ (by decide)) rfl (jHs_rd hs hr) ?_
  refine j_istore_n X (j := 3) (q := 7) d_G_drawRead_6 rfl (Nat.le_of_ble_eq_true rfl) rfl ?_
  refine j_aload_n X (q := 8) d_G_drawRead_7 rfl rfl ?_
  refine j_getR X (C := jR2) (T := jT2) (N := 12) (ci := 2) (j := 6) (q := 11) d_G_drawRead_8 ju2 rfl rfl rfl (by decide) wl88 rfl (hC _ _ (by decide)) rfl ?_
  refine j_iload_n X (q := 12) d_G_drawRead_11 rfl rfl ?_
  refine j_iald X (q := 13) d_G_drawRead_12 rfl (by decide) rfl (by omega) (hC _ _ (by decide)) rfl (jHs_rv hs hr) ?_
  refine j_istore X (q := 15) d_G_drawRead_13 (Nat.le_of_ble_eq_true rfl) rfl ?_
  refine j_iload X (q := 17) d_G_drawRead_15 rfl rfl ?_
  refine j_iconst X (v := (-1)) (q := 18) d_G_drawRead_17 (by decide +kernel) rfl ?_
  refine j_icmp_eq X (tgt := 50) (q := 21) d_G_drawRead_18 (by decide) rfl (fun h18 => ?_) (fun h18 => ?_)
  · have _b18 := True.intro
    have en := bm.mp h18
    refine jxW.to (L' := [some (.inr (20, 0)), some (.inr (1, 0)), some (.inl (nI r)), some (.inl (nI (hyrd h r))), some (.inl (vI (hyrv h r))), none]) (by simp [jfg]) ?_
    exact K σ (jGs_ext hE1 (fun a b _ _ => ⟨Or.inl, fun q => q.elim id (fun ⟨v, q1, _⟩ => by rw [en] at q1; cases q1)⟩)) hE2 (fun _ _ => rfl)
  · have _b18 := True.intro
    obtain ⟨v, ev⟩ : ∃ v, hyrv h r = some v := by
      cases e : hyrv h r with
      | some v => exact ⟨v, rfl⟩
      | none => exact absurd (bm.mpr e) h18
    have b0 := (jHw_rv hw hr ev).1
    have b3 := jHw_W hw b0
    refine j_aload_n X (q := 22) d_G_drawRead_21 rfl rfl ?_
    refine j_aload_n X (q := 23) d_G_drawRead_22 rfl rfl ?_
    refine j_getR X (C := jR2) (T := jT2) (N := 12) (ci := 2) (j := 1) (q := 26) d_G_drawRead_23 ju2 rfl rfl rfl (by decide) wl76 rfl (hC _ _ (by decide)) rfl ?_
    refine j_iload X (q := 28) d_G_drawRead_26 rfl rfl ?_
    refine j_iald X (j := v) (q := 29) d_G_drawRead_28 rfl (by decide) (show vI (hyrv h r) = nI v by rw [ev]; rfl) (by omega) (hC _ _ (by decide)) rfl (jHs_W hs b0) ?_
    refine j_callV X (n := 1) (C := jR2) (T := jT2) (N := 12) d_G_drawRead_29 (c_H_isCommitted hI (fun g r q => hC g r (jHJ q)) hw hs b3) rfl rfl (hC _ _ (by decide)) wl209 wl210 wl211 wl37 wl212 (by decide +kernel) ⟨rfl, rfl⟩ (by decide) rfl rfl (Nat.le_of_ble_eq_true rfl) rfl (q := 32) rfl (fun r29 τ29 e29 => ?_)
    obtain ⟨rfl, rfl⟩ := e29
    refine j_bif_eq X (tgt := 50) (q := 35) d_G_drawRead_32 (by decide) rfl (fun h32 => ?_) (fun h32 => ?_)
    · have _b32 := True.intro
      refine jxW.to (L' := [some (.inr (20, 0)), some (.inr (1, 0)), some (.inl (nI r)), some (.inl (nI (hyrd h r))), some (.inl (vI (hyrv h r))), none]) (by simp [jfg]) ?_
      exact K σ (jGs_ext hE1 (fun a b _ _ => ⟨Or.inl, fun q => q.elim id (fun ⟨w, q1, q2, _⟩ => by rw [ev] at q1; cases q1; rw [decide_eq_true q2] at h32; cases h32)⟩)) hE2 (fun _ _ => rfl)
    · have _b32 := True.intro
      refine j_aload_n X (q := 36) d_G_drawRead_35 rfl rfl ?_
      refine j_getR X (C := jR1) (T := jT1) (N := 3) (ci := 1) (j := 1) (q := 39) d_G_drawRead_36 ju1 rfl rfl rfl (by decide) wl124 rfl (hC _ _ (by decide)) rfl ?_
      refine j_aload_n X (q := 40) d_G_drawRead_39 rfl rfl ?_
      refine j_getR X (C := jR2) (T := jT2) (N := 12) (ci := 2) (j := 1) (q := 43) d_G_drawRead_40 ju2 rfl rfl rfl (by decide) wl76 rfl (hC _ _ (by decide)) rfl ?_
      refine j_iload X (q := 45) d_G_drawRead_43 rfl rfl ?_
      refine j_iald X (j := v) (q := 46) d_G_drawRead_45 rfl (by decide) (show vI (hyrv h r) = nI v by rw [ev]; rfl) (by omega) (hC _ _ (by decide)) rfl (jHs_W hs b0) ?_
      refine j_iload_n X (q := 47) d_G_drawRead_46 rfl rfl ?_
      refine j_callS X (n := 3) d_G_drawRead_47 (c_G_join hI (g := 22) rfl (hC _ _ (by decide)) b3 b1 hE1) wl204 wl205 wl39 wl206 (by decide +kernel) ⟨rfl, rfl⟩ (by decide) rfl rfl (Nat.le_of_ble_eq_true rfl) rfl (q := 50) rfl (fun r47 τ47 e47 => ?_)
      obtain ⟨rfl, hE3, hf3⟩ := e47
      refine jxW.to (L' := [some (.inr (20, 0)), some (.inr (1, 0)), some (.inl (nI r)), some (.inl (nI (hyrd h r))), some (.inl (vI (hyrv h r))), none]) (by simp [jfg]) ?_
      exact K _ (jGs_ext hE3 (fun a b _ _ => ⟨fun q => q.elim Or.inl (fun z => Or.inr ⟨v, ev, by simpa using h32, z⟩), fun q => q.elim Or.inl (fun ⟨w, q1, _, z⟩ => by rw [ev] at q1; cases q1; exact Or.inr z)⟩)) (jGs_keep hE2 (hf3 23 (by decide))) (fun g' hg => hf3 g' hg)
def jWW (h : jH) (a b : Nat) : Prop := ∃ x, x < 6 ∧ jwwx h x (hyon h x) a b
def jWR (h : jH) (a b : Nat) : Prop := ∃ r, r < hyR h ∧ hyS h (hyrd h r) = 2 ∧ jwrr h r a b
def jRW (h : jH) (a b : Nat) : Prop := ∃ r, r < hyR h ∧ hyS h (hyrd h r) = 2 ∧ jrwr h r a b
theorem jex_succ {n : Nat} {P : Nat → Prop} : (∃ x, x < n + 1 ∧ P x) ↔ (∃ x, x < n ∧ P x) ∨ P n := by
  constructor
  · rintro ⟨x, h1, h2⟩
    by_cases e : x = n
    · subst e; exact Or.inr h2
    · exact Or.inl ⟨x, by omega, h2⟩
  · rintro (⟨x, h1, h2⟩ | h)
    · exact ⟨x, by omega, h2⟩
    · exact ⟨n, by omega, h⟩
theorem jGs_fill {g : Nat} {σ : jxM} : jGs g (fun _ _ => False) (jfl σ g 0 8 (nI 0)) := by
  intro a ha
  have : (fun b : Nat => jd ((fun _ _ => False) a b)) = (fun _ => false) := by funext b; exact jd_no.mpr id
  show jfl σ g 0 8 (nI 0) g 0 a = bI (fun b => jd False)
  rw [show (fun _ : Nat => jd False) = (fun _ => false) by (funext b; exact jd_no.mpr id), bI_false]
  simp [jfl, ha]
  rfl
theorem jfl_g (σ : jxM) (g r n : Nat) (x : Int32) {g' : Nat} (h : g' ≠ g) : jfl σ g r n x g' = σ g' := by
  funext r' j
  simp [jfl, h]
set_option maxRecDepth 100000 in
set_option maxHeartbeats 4000000 in
theorem c_G_draw {l : Launch} {Θ : jxT} (hI : jxI Θ) (hC : ∀ g r, r < jrwJ g → Θ.2.2.2 g r) {h : jH} {σ : jxM} (hw : jHw h) (hs : jHs h σ)  : jxMet l y_G_draw b_G_draw 3 none (jrm 4) Θ [.inr (20, 0), .inr (1, 0)] σ (fun r' σ' => r' = none ∧ jGs 21 (jWW h) σ' ∧ jGs 22 (jWR h) σ' ∧ jGs 23 (jRW h) σ' ∧ ∀ g', g' < 21 ∨ 23 < g' → σ' g' = σ g') := by
  refine jxMet.of (own := "HistoryJudge$Graph") hI (by decide) rfl (Nat.le_of_ble_eq_true rfl) (fun Γ X => ?_)
  show jxW Γ Θ (fun r' σ' => r' = none ∧ jGs 21 (jWW h) σ' ∧ jGs 22 (jWR h) σ' ∧ jGs 23 (jRW h) σ' ∧ ∀ g', g' < 21 ∨ 23 < g' → σ' g' = σ g') 0 [some (.inr (20, 0)), some (.inr (1, 0)), none] [] σ
  have bV := jHw_V hw
  have bR := jHw_R hw
  have KR : ∀ (N : Nat) (r : Nat) (σ1 : jxM), 61 - r < N → r ≤ hyR h → jGs 21 (jWW h) σ1 → jGs 22 (fun a b => ∃ q, q < r ∧ hyS h (hyrd h q) = 2 ∧ jwrr h q a b) σ1 → jGs 23 (fun a b => ∃ q, q < r ∧ hyS h (hyrd h q) = 2 ∧ jrwr h q a b) σ1 → (∀ g', g' < 21 ∨ 23 < g' → σ1 g' = σ g') → jxW Γ Θ (fun r' σ' => r' = none ∧ jGs 21 (jWW h) σ' ∧ jGs 22 (jWR h) σ' ∧ jGs 23 (jRW h) σ' ∧ ∀ g', g' < 21 ∨ 23 < g' → σ' g' = σ g') 46 [some (.inr (20, 0)), some (.inr (1, 0)), some (.inl (nI r))] [] σ1 := by
    intro N
    induction N with
    | zero => intro r σ1 hn; exact absurd hn (Nat.not_lt_zero _)
    | succ N ih =>
      intro r σ1 hn hr e1 e2 e3 f1
      have hs1 : jHs h σ1 := jHs_keep hs (fun g hg => f1 g (by omega))
      refine j_iload_n X (q := 47) d_G_draw_46 rfl rfl ?_
      refine j_aload_n X (q := 48) d_G_draw_47 rfl rfl ?_
      refine j_getI X (C := jR2) (T := jT2) (N := 12) (ci := 2) (j := 8) (q := 51) d_G_draw_48 ju2 rfl rfl rfl (by decide) wl93 rfl (hC _ _ (by decide)) rfl (jHs_R hs1) ?_
      refine j_ncmp_ge X (tgt := 79) (q := 54) d_G_draw_51 (by decide) rfl (by omega) (by omega) (fun h51 => ?_) (fun h51 => ?_)
      · have _b51 := True.intro
        refine j_vret X d_G_draw_79 ?_
        have er : r = hyR h := by omega
        subst er
        exact ⟨rfl, e1, e2, e3, f1⟩
      · have _b51 := True.intro
        refine j_aload_n X (q := 55) d_G_draw_54 rfl rfl ?_
        refine j_aload_n X (q := 56) d_G_draw_55 rfl rfl ?_
        refine j_getR X (C := jR2) (T := jT2) (N := 12) (ci := 2) (j := 4) (q := 59) d_G_draw_56 ju2 rfl rfl rfl (by decide) wl82 rfl (hC _ _ (by decide)) rfl ?_
        refine j_iload_n X (q := 60) d_G_draw_59 rfl rfl ?_
        refine j_iald X (q := 61) d_G_draw_60 rfl (by decide) rfl (by omega) (hC _ _ (by decide)) rfl (jHs_rd hs1 (by omega)) ?_
        refine j_callV X (n := 1) (C := jR2) (T := jT2) (N := 12) d_G_draw_61 (c_H_isCommitted hI (fun g r q => hC g r (jHJ q)) hw hs1 (t := hyrd h r) (jHw_rd hw (by omega))) rfl rfl (hC _ _ (by decide)) wl209 wl210 wl211 wl37 wl212 (by decide +kernel) ⟨rfl, rfl⟩ (by decide) rfl rfl (Nat.le_of_ble_eq_true rfl) rfl (q := 64) rfl (fun r61 τ61 e61 => ?_)
        obtain ⟨rfl, rfl⟩ := e61
        refine j_bif_eq X (tgt := 73) (q := 67) d_G_draw_64 (by decide) rfl (fun h64 => ?_) (fun h64 => ?_)
        · have _b64 := True.intro
          refine j_iinc X (q := 76) d_G_draw_73 rfl (j_inc1 _) rfl ?_
          refine j_goto X (tgt := 46) d_G_draw_76 (by decide) ?_
          have hnc : ¬ hyS h (hyrd h r) = 2 := by simpa using h64
          exact ih (r + 1) σ1 (by omega) (by omega) e1 (jGs_ext e2 (fun a b _ _ => by rw [jex_succ]; exact ⟨Or.inl, fun q => q.elim id (fun z => absurd z.1 hnc)⟩)) (jGs_ext e3 (fun a b _ _ => by rw [jex_succ]; exact ⟨Or.inl, fun q => q.elim id (fun z => absurd z.1 hnc)⟩)) f1
        · have _b64 := True.intro
          refine j_aload_n X (q := 68) d_G_draw_67 rfl rfl ?_
          refine j_aload_n X (q := 69) d_G_draw_68 rfl rfl ?_
          refine j_iload_n X (q := 70) d_G_draw_69 rfl rfl ?_
          refine j_callV X (n := 2) (C := jR1) (T := jT1) (N := 3) d_G_draw_70 (c_G_drawRead hI hC hw hs1 e2 e3 (r := r) (by omega)) rfl rfl (hC _ _ (by decide)) wl213 wl214 wl1 wl39 wl215 (by decide +kernel) ⟨rfl, rfl⟩ (by decide) rfl rfl (Nat.le_of_ble_eq_true rfl) rfl (q := 73) rfl (fun r70 τ70 e70 => ?_)
          obtain ⟨rfl, e2x, e3x, f2x⟩ := e70
          refine j_iinc X (q := 76) d_G_draw_73 rfl (j_inc1 _) rfl ?_
          refine j_goto X (tgt := 46) d_G_draw_76 (by decide) ?_
          have hcc : hyS h (hyrd h r) = 2 := by simpa using h64
          exact ih (r + 1) _ (by omega) (by omega) (jGs_keep e1 (f2x 21 (by decide) (by decide))) (jGs_ext e2x (fun a b _ _ => by rw [jex_succ]; simp [hcc])) (jGs_ext e3x (fun a b _ _ => by rw [jex_succ]; simp [hcc])) (fun g' hg => by rw [f2x g' (by omega) (by omega), f1 g' hg])
  have K : ∀ (N : Nat) (x : Nat) (σ1 : jxM), 7 - x < N → x ≤ 6 → jGs 21 (fun a b => ∃ y, y < x ∧ jwwx h y (hyon h y) a b) σ1 → jGs 22 (fun _ _ => False) σ1 → jGs 23 (fun _ _ => False) σ1 → (∀ g', g' < 21 ∨ 23 < g' → σ1 g' = σ g') → jxW Γ Θ (fun r' σ' => r' = none ∧ jGs 21 (jWW h) σ' ∧ jGs 22 (jWR h) σ' ∧ jGs 23 (jRW h) σ' ∧ ∀ g', g' < 21 ∨ 23 < g' → σ' g' = σ g') 26 [some (.inr (20, 0)), some (.inr (1, 0)), some (.inl (nI x))] [] σ1 := by
    intro N
    induction N with
    | zero => intro x σ1 hn; exact absurd hn (Nat.not_lt_zero _)
    | succ N ih =>
      intro x σ1 hn hx e1 e2 e3 f1
      have hs1 : jHs h σ1 := jHs_keep hs (fun g hg => f1 g (by omega))
      refine j_iload_n X (q := 27) d_G_draw_26 rfl rfl ?_
      refine j_bipush X (v := (nI 6)) (q := 29) d_G_draw_27 (by decide +kernel) rfl ?_
      refine j_ncmp_ge X (tgt := 44) (q := 32) d_G_draw_29 (by decide) rfl (by omega) (by omega) (fun h29 => ?_) (fun h29 => ?_)
      · have _b29 := True.intro
        refine j_iconst X (v := (nI 0)) (q := 45) d_G_draw_44 (by decide +kernel) rfl ?_
        refine j_istore_n X (j := 2) (q := 46) d_G_draw_45 rfl (Nat.le_of_ble_eq_true rfl) rfl ?_
        have ex : x = 6 := by omega
        subst ex
        refine jxW.to (L' := [some (.inr (20, 0)), some (.inr (1, 0)), some (.inl (nI 0))]) (by simp [jfg]) ?_
        exact KR 62 0 σ1 (by omega) (by omega) e1 (jGs_ext e2 (fun a b _ _ => ⟨fun q => q.elim, fun ⟨r, q, _⟩ => by omega⟩)) (jGs_ext e3 (fun a b _ _ => ⟨fun q => q.elim, fun ⟨r, q, _⟩ => by omega⟩)) f1
      · have _b29 := True.intro
        refine j_aload_n X (q := 33) d_G_draw_32 rfl rfl ?_
        refine j_aload_n X (q := 34) d_G_draw_33 rfl rfl ?_
        refine j_iload_n X (q := 35) d_G_draw_34 rfl rfl ?_
        refine j_callV X (n := 2) (C := jR1) (T := jT1) (N := 3) d_G_draw_35 (c_G_drawOrder hI hC hw hs1 e1 (x := x) (by omega)) rfl rfl (hC _ _ (by decide)) wl201 wl202 wl0 wl39 wl203 (by decide +kernel) ⟨rfl, rfl⟩ (by decide) rfl rfl (Nat.le_of_ble_eq_true rfl) rfl (q := 38) rfl (fun r35 τ35 e35 => ?_)
        obtain ⟨rfl, e1x, f1x⟩ := e35
        refine j_iinc X (q := 41) d_G_draw_38 rfl (j_inc1 _) rfl ?_
        refine j_goto X (tgt := 26) d_G_draw_41 (by decide) ?_
        exact ih (x + 1) _ (by omega) (by omega) (jGs_ext e1x (fun a b _ _ => by rw [jex_succ])) (jGs_keep e2 (f1x 22 (by decide))) (jGs_keep e3 (f1x 23 (by decide))) (fun g' hg => by rw [f1x g' (by omega), f1 g' hg])
  refine j_aload_n X (q := 1) d_G_draw_0 rfl rfl ?_
  refine j_getR X (C := jR1) (T := jT1) (N := 3) (ci := 1) (j := 0) (q := 4) d_G_draw_1 ju1 rfl rfl rfl (by decide) wl121 rfl (hC _ _ (by decide)) rfl ?_
  refine j_iconst X (v := (nI 0)) (q := 5) d_G_draw_4 (by decide +kernel) rfl ?_
  refine j_callS X (n := 2) d_G_draw_5 (c_A_fill hI (g := 21) (r := 0) (n := 8) rfl (by decide) (hC _ _ (by decide)) (nI 0) _) wl200 wl71 wl38 wl72 (by decide +kernel) ⟨rfl, rfl⟩ (by decide) rfl rfl (Nat.le_of_ble_eq_true rfl) rfl (q := 8) rfl (fun r5 τ5 e5 => ?_)
  obtain ⟨rfl, rfl⟩ := e5
  refine j_aload_n X (q := 9) d_G_draw_8 rfl rfl ?_
  refine j_getR X (C := jR1) (T := jT1) (N := 3) (ci := 1) (j := 1) (q := 12) d_G_draw_9 ju1 rfl rfl rfl (by decide) wl124 rfl (hC _ _ (by decide)) rfl ?_
  refine j_iconst X (v := (nI 0)) (q := 13) d_G_draw_12 (by decide +kernel) rfl ?_
  refine j_callS X (n := 2) d_G_draw_13 (c_A_fill hI (g := 22) (r := 0) (n := 8) rfl (by decide) (hC _ _ (by decide)) (nI 0) _) wl200 wl71 wl38 wl72 (by decide +kernel) ⟨rfl, rfl⟩ (by decide) rfl rfl (Nat.le_of_ble_eq_true rfl) rfl (q := 16) rfl (fun r13 τ13 e13 => ?_)
  obtain ⟨rfl, rfl⟩ := e13
  refine j_aload_n X (q := 17) d_G_draw_16 rfl rfl ?_
  refine j_getR X (C := jR1) (T := jT1) (N := 3) (ci := 1) (j := 2) (q := 20) d_G_draw_17 ju1 rfl rfl rfl (by decide) wl127 rfl (hC _ _ (by decide)) rfl ?_
  refine j_iconst X (v := (nI 0)) (q := 21) d_G_draw_20 (by decide +kernel) rfl ?_
  refine j_callS X (n := 2) d_G_draw_21 (c_A_fill hI (g := 23) (r := 0) (n := 8) rfl (by decide) (hC _ _ (by decide)) (nI 0) _) wl200 wl71 wl38 wl72 (by decide +kernel) ⟨rfl, rfl⟩ (by decide) rfl rfl (Nat.le_of_ble_eq_true rfl) rfl (q := 24) rfl (fun r21 τ21 e21 => ?_)
  obtain ⟨rfl, rfl⟩ := e21
  refine j_iconst X (v := (nI 0)) (q := 25) d_G_draw_24 (by decide +kernel) rfl ?_
  refine j_istore_n X (j := 2) (q := 26) d_G_draw_25 rfl (Nat.le_of_ble_eq_true rfl) rfl ?_
  refine jxW.to (L' := [some (.inr (20, 0)), some (.inr (1, 0)), some (.inl (nI 0))]) (by simp [jfg]) ?_
  refine K 8 0 _ (by omega) (by omega) ?_ ?_ ?_ ?_
  · exact jGs_ext (jGs_keep jGs_fill (by rw [jfl_g _ _ _ _ _ (by decide), jfl_g _ _ _ _ _ (by decide)])) (fun a b _ _ => ⟨fun q => q.elim, fun ⟨x, q, _⟩ => by omega⟩)
  · exact jGs_keep jGs_fill (by rw [jfl_g _ _ _ _ _ (by decide)])
  · exact jGs_fill
  · exact fun g' hg => by rw [jfl_g _ _ _ _ _ (by omega), jfl_g _ _ _ _ _ (by omega), jfl_g _ _ _ _ _ (by omega)]
