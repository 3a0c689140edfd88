/-! The law's loop: a call of the class, the same of the reference, the answers compared. -/
theorem jMs_far {h : jH} {v : jV} {σ σ' : jxM} (k : jMs h v σ) (e : ∀ g, 40 ≤ g → g ≠ 60 → σ' g = σ g) : jMs h v σ' := by
  unfold jMs
  rw [e 40 (by omega) (by omega), e 41 (by omega) (by omega), e 42 (by omega) (by omega), e 43 (by omega) (by omega), e 44 (by omega) (by omega), e 45 (by omega) (by omega), e 46 (by omega) (by omega), e 47 (by omega) (by omega), e 48 (by omega) (by omega), e 49 (by omega) (by omega)]
  exact k
theorem jand15 (x : Int32) : ∃ c, c < 16 ∧ x &&& nI 15 = nI c := by
  have hle : x.toBitVec.toNat &&& 15 ≤ 15 := Nat.and_le_right
  refine ⟨x.toBitVec.toNat &&& 15, by omega, Int32.toBitVec_inj.mp (BitVec.eq_of_toNat_eq ?_)⟩
  have e : (nI (x.toBitVec.toNat &&& 15)).toBitVec.toNat = x.toBitVec.toNat &&& 15 := by
    show (BitVec.ofNat 32 _).toNat = _
    rw [BitVec.toNat_ofNat, Nat.mod_eq_of_lt (by omega)]
  rw [e, Int32.toBitVec_and, BitVec.toNat_and]
  rfl
theorem jexc_ok {h : jH} (hw : jHw h) {x i : Int32} (q : jin x 6 = true ∧ jin i (hyon h x.toNatClampNeg - 1) = true) : i.toNatClampNeg + 1 < hyon h x.toNatClampNeg := by
  obtain ⟨a, ha, rfl⟩ := jin_of q.1 (by decide)
  have ca : (nI a).toNatClampNeg = a := nI_clamp (by omega)
  have q2 := q.2
  rw [ca] at q2 ⊢
  have := jHw_on hw ha
  obtain ⟨b, hb, rfl⟩ := jin_of q2 (by omega)
  rw [nI_clamp (by omega)]
  omega
theorem jxWq.to {Γ : jxG} {Θ : jxT} {Φ : jxQc} {pc : Nat} {L L' : List (Option jxV)} {st : List jxV} {σ : jxM} (h : jfg L L') (k : jxWq Γ Θ Φ pc L' st σ) : jxWq Γ Θ Φ pc L st σ := by
  obtain ⟨p, l', e, R, s, m, args, below, meth, c, A⟩ := Γ
  intro H locs ls hP hS hl
  exact k H locs ls hP hS ⟨hl.1.trans (jfg_len L L' h), hl.2.1, fun i v hi => hl.2.2 i v (jfg_at L L' h i v hi)⟩
set_option maxRecDepth 100000 in
set_option maxHeartbeats 40000000 in
theorem jlaw_state {Γ : jxG} {Θ : jxT} {l : Launch} {f : Nat → Int32} {nf : Nat} {Q : State → Prop} (hI : jxI Θ) (htr : l.stackTraces = false) (hC : ∀ g r, r < jrwJ g → Θ.2.2.2 g r) (hM : ∀ g r, r < jrwM g → Θ.2.2.2 g r) (hO : Θ.2.2.2 60 0) (X : jxOk Γ Θ l b_L_law 7 "HistoryJudgeLaw" (some FieldType.boolean) room_1) (Z : jxOkW Γ Θ f nf) {i : Nat} (hi : 4 * i + 4 ≤ nf) (hn31 : nf < 2 ^ 30) (hB : 63 + i + 1 ≤ room_1.cells ∧ 1572 + 6 * i + 6 ≤ room_1.slots) {h : jH} {v : jV} {σ : jxM} (hw : jHw h) (hv : jVc h v) (hs : jHs h σ) (hm : jMs h v σ) (K612 : ∀ (h' : jH) (v' : jV) (τ : jxM) (k n : Nat) (a5 a6 : Option jxV), k ≤ 63 + i + 1 → n ≤ 1572 + 6 * i + 6 → jHw h' → jVc h' v' → jHs h' τ → jMs h' v' τ → jxWq Γ Θ (Q, k, n) 612 [some (.inr (61, 0)), some (.inr (0, 0)), some (.inr (40, 0)), some (.inr (60, 0)), some (.inl (nI (4 * i))), a5, a6] [] τ) : jxWq Γ Θ (Q, 63 + i, 1572 + 6 * i) 324 [some (.inr (61, 0)), some (.inr (0, 0)), some (.inr (40, 0)), some (.inr (60, 0)), some (.inl (nI (4 * i))), none, none] [] σ := by
  have bV := jHw_V hw
  have bR := jHw_R hw
  refine q_aload_n X (q := 325) d_L_law_324 rfl rfl ?_
  refine q_aload_n X (q := 326) d_L_law_325 rfl rfl ?_
  refine q_iload X (q := 328) d_L_law_326 rfl rfl ?_
  refine q_iconst X (v := (nI 1)) (q := 329) d_L_law_328 (by decide +kernel) rfl ?_
  refine q_iadd X (q := 330) d_L_law_329 rfl ?_
  refine q_scr X Z (j := 4 * i + 1) (q := 331) d_L_law_330 (nI_add _ _) (by omega) rfl ?_
  refine q_callV X (n := 1) (C := jR4) (T := jT4) (N := 4) d_L_law_331 (c_J_state hI hC hw hs (f (4 * i + 1))) rfl rfl (hC _ _ (by decide)) wl174 wl175 wl176 wl36 wl177 (by decide +kernel) (by refine ⟨?_, ?_⟩ <;> dsimp only <;> omega) ⟨rfl, rfl⟩ (by decide) rfl rfl (Nat.le_of_ble_eq_true rfl) rfl (q := 334) rfl (fun r331 τ331 e331 => ?_)
  obtain ⟨rfl, rfl⟩ := e331
  refine q_aload_n X (q := 335) d_L_law_334 rfl rfl ?_
  refine q_aload_n X (q := 336) d_L_law_335 rfl rfl ?_
  refine q_iload X (q := 338) d_L_law_336 rfl rfl ?_
  refine q_iconst X (v := (nI 1)) (q := 339) d_L_law_338 (by decide +kernel) rfl ?_
  refine q_iadd X (q := 340) d_L_law_339 rfl ?_
  refine q_scr X Z (j := 4 * i + 1) (q := 341) d_L_law_340 (nI_add _ _) (by omega) rfl ?_
  refine q_callV X (n := 1) (C := jR5) (T := jT5) (N := 18) d_L_law_341 (c_M_state hI hM hw hv hm (f (4 * i + 1))) rfl rfl (hM _ _ (by decide)) wl551 wl552 wl553 wl42 wl554 (by decide +kernel) (by refine ⟨?_, ?_⟩ <;> dsimp only <;> omega) ⟨rfl, rfl⟩ (by decide) rfl rfl (Nat.le_of_ble_eq_true rfl) rfl (q := 344) rfl (fun r341 τ341 e341 => ?_)
  obtain ⟨rfl, hfM⟩ := e341
  refine q_icmp_eq X (tgt := 612) (q := 347) d_L_law_344 (by decide) rfl (fun h344 => ?_) (fun h344 => ?_)
  · have _b344 := True.intro
    exact K612 (h) (v) τ341 _ _ _ _ (by first | omega | (dsimp only; omega)) (by first | omega | (dsimp only; omega)) hw hv (jHs_keep hs (fun g hg => hfM.1 g (by omega) (by omega))) (jMs_keep hm hfM)
  · have _b344 := True.intro
    exact absurd rfl h344
set_option maxRecDepth 100000 in
set_option maxHeartbeats 40000000 in
theorem jlaw_version {Γ : jxG} {Θ : jxT} {l : Launch} {f : Nat → Int32} {nf : Nat} {Q : State → Prop} (hI : jxI Θ) (htr : l.stackTraces = false) (hC : ∀ g r, r < jrwJ g → Θ.2.2.2 g r) (hM : ∀ g r, r < jrwM g → Θ.2.2.2 g r) (hO : Θ.2.2.2 60 0) (X : jxOk Γ Θ l b_L_law 7 "HistoryJudgeLaw" (some FieldType.boolean) room_1) (Z : jxOkW Γ Θ f nf) {i : Nat} (hi : 4 * i + 4 ≤ nf) (hn31 : nf < 2 ^ 30) (hB : 63 + i + 1 ≤ room_1.cells ∧ 1572 + 6 * i + 6 ≤ room_1.slots) {h : jH} {v : jV} {σ : jxM} (hw : jHw h) (hv : jVc h v) (hs : jHs h σ) (hm : jMs h v σ) (K612 : ∀ (h' : jH) (v' : jV) (τ : jxM) (k n : Nat) (a5 a6 : Option jxV), k ≤ 63 + i + 1 → n ≤ 1572 + 6 * i + 6 → jHw h' → jVc h' v' → jHs h' τ → jMs h' v' τ → jxWq Γ Θ (Q, k, n) 612 [some (.inr (61, 0)), some (.inr (0, 0)), some (.inr (40, 0)), some (.inr (60, 0)), some (.inl (nI (4 * i))), a5, a6] [] τ) : jxWq Γ Θ (Q, 63 + i, 1572 + 6 * i) 349 [some (.inr (61, 0)), some (.inr (0, 0)), some (.inr (40, 0)), some (.inr (60, 0)), some (.inl (nI (4 * i))), none, none] [] σ := by
  have bV := jHw_V hw
  have bR := jHw_R hw
  refine q_aload_n X (q := 350) d_L_law_349 rfl rfl ?_
  refine q_aload_n X (q := 351) d_L_law_350 rfl rfl ?_
  refine q_iload X (q := 353) d_L_law_351 rfl rfl ?_
  refine q_iconst X (v := (nI 1)) (q := 354) d_L_law_353 (by decide +kernel) rfl ?_
  refine q_iadd X (q := 355) d_L_law_354 rfl ?_
  refine q_scr X Z (j := 4 * i + 1) (q := 356) d_L_law_355 (nI_add _ _) (by omega) rfl ?_
  refine q_aload_n X (q := 357) d_L_law_356 rfl rfl ?_
  refine q_iload X (q := 359) d_L_law_357 rfl rfl ?_
  refine q_iconst X (v := (nI 2)) (q := 360) d_L_law_359 (by decide +kernel) rfl ?_
  refine q_iadd X (q := 361) d_L_law_360 rfl ?_
  refine q_scr X Z (j := 4 * i + 2) (q := 362) d_L_law_361 (nI_add _ _) (by omega) rfl ?_
  refine q_callV X (n := 2) (C := jR4) (T := jT4) (N := 4) d_L_law_362 (c_J_version hI hC hw hs (f (4 * i + 1)) (f (4 * i + 2))) rfl rfl (hC _ _ (by decide)) wl181 wl182 wl183 wl36 wl184 (by decide +kernel) (by refine ⟨?_, ?_⟩ <;> dsimp only <;> omega) ⟨rfl, rfl⟩ (by decide) rfl rfl (Nat.le_of_ble_eq_true rfl) rfl (q := 365) rfl (fun r362 τ362 e362 => ?_)
  obtain ⟨rfl, rfl⟩ := e362
  refine q_aload_n X (q := 366) d_L_law_365 rfl rfl ?_
  refine q_aload_n X (q := 367) d_L_law_366 rfl rfl ?_
  refine q_iload X (q := 369) d_L_law_367 rfl rfl ?_
  refine q_iconst X (v := (nI 1)) (q := 370) d_L_law_369 (by decide +kernel) rfl ?_
  refine q_iadd X (q := 371) d_L_law_370 rfl ?_
  refine q_scr X Z (j := 4 * i + 1) (q := 372) d_L_law_371 (nI_add _ _) (by omega) rfl ?_
  refine q_aload_n X (q := 373) d_L_law_372 rfl rfl ?_
  refine q_iload X (q := 375) d_L_law_373 rfl rfl ?_
  refine q_iconst X (v := (nI 2)) (q := 376) d_L_law_375 (by decide +kernel) rfl ?_
  refine q_iadd X (q := 377) d_L_law_376 rfl ?_
  refine q_scr X Z (j := 4 * i + 2) (q := 378) d_L_law_377 (nI_add _ _) (by omega) rfl ?_
  refine q_callV X (n := 2) (C := jR5) (T := jT5) (N := 18) d_L_law_378 (c_M_version hI hM hw hv hm (f (4 * i + 1)) (f (4 * i + 2))) rfl rfl (hM _ _ (by decide)) wl555 wl556 wl557 wl42 wl558 (by decide +kernel) (by refine ⟨?_, ?_⟩ <;> dsimp only <;> omega) ⟨rfl, rfl⟩ (by decide) rfl rfl (Nat.le_of_ble_eq_true rfl) rfl (q := 381) rfl (fun r378 τ378 e378 => ?_)
  obtain ⟨rfl, hfM⟩ := e378
  refine q_icmp_eq X (tgt := 612) (q := 384) d_L_law_381 (by decide) rfl (fun h381 => ?_) (fun h381 => ?_)
  · have _b381 := True.intro
    exact K612 (h) (v) τ378 _ _ _ _ (by first | omega | (dsimp only; omega)) (by first | omega | (dsimp only; omega)) hw hv (jHs_keep hs (fun g hg => hfM.1 g (by omega) (by omega))) (jMs_keep hm hfM)
  · have _b381 := True.intro
    exact absurd rfl h381
set_option maxRecDepth 100000 in
set_option maxHeartbeats 40000000 in
theorem jlaw_edges {Γ : jxG} {Θ : jxT} {l : Launch} {f : Nat → Int32} {nf : Nat} {Q : State → Prop} (hI : jxI Θ) (htr : l.stackTraces = false) (hC : ∀ g r, r < jrwJ g → Θ.2.2.2 g r) (hM : ∀ g r, r < jrwM g → Θ.2.2.2 g r) (hO : Θ.2.2.2 60 0) (X : jxOk Γ Θ l b_L_law 7 "HistoryJudgeLaw" (some FieldType.boolean) room_1) (Z : jxOkW Γ Θ f nf) {i : Nat} (hi : 4 * i + 4 ≤ nf) (hn31 : nf < 2 ^ 30) (hB : 63 + i + 1 ≤ room_1.cells ∧ 1572 + 6 * i + 6 ≤ room_1.slots) {h : jH} {v : jV} {σ : jxM} (hw : jHw h) (hv : jVc h v) (hs : jHs h σ) (hm : jMs h v σ) (K612 : ∀ (h' : jH) (v' : jV) (τ : jxM) (k n : Nat) (a5 a6 : Option jxV), k ≤ 63 + i + 1 → n ≤ 1572 + 6 * i + 6 → jHw h' → jVc h' v' → jHs h' τ → jMs h' v' τ → jxWq Γ Θ (Q, k, n) 612 [some (.inr (61, 0)), some (.inr (0, 0)), some (.inr (40, 0)), some (.inr (60, 0)), some (.inl (nI (4 * i))), a5, a6] [] τ) : jxWq Γ Θ (Q, 63 + i, 1572 + 6 * i) 423 [some (.inr (61, 0)), some (.inr (0, 0)), some (.inr (40, 0)), some (.inr (60, 0)), some (.inl (nI (4 * i))), none, none] [] σ := by
  have bV := jHw_V hw
  have bR := jHw_R hw
  refine q_aload_n X (q := 424) d_L_law_423 rfl rfl ?_
  refine q_aload_n X (q := 425) d_L_law_424 rfl rfl ?_
  refine q_iload X (q := 427) d_L_law_425 rfl rfl ?_
  refine q_iconst X (v := (nI 1)) (q := 428) d_L_law_427 (by decide +kernel) rfl ?_
  refine q_iadd X (q := 429) d_L_law_428 rfl ?_
  refine q_scr X Z (j := 4 * i + 1) (q := 430) d_L_law_429 (nI_add _ _) (by omega) rfl ?_
  refine q_aload_n X (q := 431) d_L_law_430 rfl rfl ?_
  refine q_iload X (q := 433) d_L_law_431 rfl rfl ?_
  refine q_iconst X (v := (nI 2)) (q := 434) d_L_law_433 (by decide +kernel) rfl ?_
  refine q_iadd X (q := 435) d_L_law_434 rfl ?_
  refine q_scr X Z (j := 4 * i + 2) (q := 436) d_L_law_435 (nI_add _ _) (by omega) rfl ?_
  refine q_callV X (n := 2) (C := jR4) (T := jT4) (N := 4) d_L_law_436 (c_J_edges hI hC hw hs (f (4 * i + 1)) (f (4 * i + 2))) rfl rfl (hC _ _ (by decide)) wl192 wl193 wl194 wl36 wl195 (by decide +kernel) (by refine ⟨?_, ?_⟩ <;> dsimp only <;> omega) ⟨rfl, rfl⟩ (by decide) rfl rfl (Nat.le_of_ble_eq_true rfl) rfl (q := 439) rfl (fun r436 τ436 e436 => ?_)
  obtain ⟨rfl, hfJ⟩ := e436
  refine q_aload_n X (q := 440) d_L_law_439 rfl rfl ?_
  refine q_aload_n X (q := 441) d_L_law_440 rfl rfl ?_
  refine q_iload X (q := 443) d_L_law_441 rfl rfl ?_
  refine q_iconst X (v := (nI 1)) (q := 444) d_L_law_443 (by decide +kernel) rfl ?_
  refine q_iadd X (q := 445) d_L_law_444 rfl ?_
  refine q_scr X Z (j := 4 * i + 1) (q := 446) d_L_law_445 (nI_add _ _) (by omega) rfl ?_
  refine q_aload_n X (q := 447) d_L_law_446 rfl rfl ?_
  refine q_iload X (q := 449) d_L_law_447 rfl rfl ?_
  refine q_iconst X (v := (nI 2)) (q := 450) d_L_law_449 (by decide +kernel) rfl ?_
  refine q_iadd X (q := 451) d_L_law_450 rfl ?_
  refine q_scr X Z (j := 4 * i + 2) (q := 452) d_L_law_451 (nI_add _ _) (by omega) rfl ?_
  refine q_callV X (n := 2) (C := jR5) (T := jT5) (N := 18) d_L_law_452 (c_M_edges hI hM hw hv (jMs_far hm (fun g hg _ => hfJ g (Or.inr hg))) (f (4 * i + 1)) (f (4 * i + 2))) rfl rfl (hM _ _ (by decide)) wl567 wl568 wl569 wl42 wl570 (by decide +kernel) (by refine ⟨?_, ?_⟩ <;> dsimp only <;> omega) ⟨rfl, rfl⟩ (by decide) rfl rfl (Nat.le_of_ble_eq_true rfl) rfl (q := 455) rfl (fun r452 τ452 e452 => ?_)
  obtain ⟨rfl, hfM⟩ := e452
  refine q_icmp_eq X (tgt := 612) (q := 458) d_L_law_455 (by decide) rfl (fun h455 => ?_) (fun h455 => ?_)
  · have _b455 := True.intro
    exact K612 (h) (v) τ452 _ _ _ _ (by first | omega | (dsimp only; omega)) (by first | omega | (dsimp only; omega)) hw hv (jHs_keep (jHs_keep hs (fun g hg => hfJ g (Or.inl hg))) (fun g hg => hfM.1 g (by omega) (by omega))) (jMs_keep (jMs_far hm (fun g hg _ => hfJ g (Or.inr hg))) hfM)
  · have _b455 := True.intro
    exact absurd rfl h455
set_option maxRecDepth 100000 in
set_option maxHeartbeats 40000000 in
theorem jlaw_flaws {Γ : jxG} {Θ : jxT} {l : Launch} {f : Nat → Int32} {nf : Nat} {Q : State → Prop} (hI : jxI Θ) (htr : l.stackTraces = false) (hC : ∀ g r, r < jrwJ g → Θ.2.2.2 g r) (hM : ∀ g r, r < jrwM g → Θ.2.2.2 g r) (hO : Θ.2.2.2 60 0) (X : jxOk Γ Θ l b_L_law 7 "HistoryJudgeLaw" (some FieldType.boolean) room_1) (Z : jxOkW Γ Θ f nf) {i : Nat} (hi : 4 * i + 4 ≤ nf) (hn31 : nf < 2 ^ 30) (hB : 63 + i + 1 ≤ room_1.cells ∧ 1572 + 6 * i + 6 ≤ room_1.slots) {h : jH} {v : jV} {σ : jxM} (hw : jHw h) (hv : jVc h v) (hs : jHs h σ) (hm : jMs h v σ) (K612 : ∀ (h' : jH) (v' : jV) (τ : jxM) (k n : Nat) (a5 a6 : Option jxV), k ≤ 63 + i + 1 → n ≤ 1572 + 6 * i + 6 → jHw h' → jVc h' v' → jHs h' τ → jMs h' v' τ → jxWq Γ Θ (Q, k, n) 612 [some (.inr (61, 0)), some (.inr (0, 0)), some (.inr (40, 0)), some (.inr (60, 0)), some (.inl (nI (4 * i))), a5, a6] [] τ) : jxWq Γ Θ (Q, 63 + i, 1572 + 6 * i) 460 [some (.inr (61, 0)), some (.inr (0, 0)), some (.inr (40, 0)), some (.inr (60, 0)), some (.inl (nI (4 * i))), none, none] [] σ := by
  have bV := jHw_V hw
  have bR := jHw_R hw
  refine q_aload_n X (q := 461) d_L_law_460 rfl rfl ?_
  refine q_callV X (n := 0) (C := jR4) (T := jT4) (N := 4) d_L_law_461 (c_J_flaws hI hC hw hs) rfl rfl (hC _ _ (by decide)) wl227 wl228 wl229 wl36 wl230 (by decide +kernel) (by refine ⟨?_, ?_⟩ <;> dsimp only <;> omega) ⟨rfl, rfl⟩ (by decide) rfl rfl (Nat.le_of_ble_eq_true rfl) rfl (q := 464) rfl (fun r461 τ461 e461 => ?_)
  obtain ⟨rfl, hfJ⟩ := e461
  refine q_aload_n X (q := 465) d_L_law_464 rfl rfl ?_
  refine q_callV X (n := 0) (C := jR5) (T := jT5) (N := 18) d_L_law_465 (c_M_flaws hI hM hw hv (jMs_far hm (fun g hg _ => hfJ g (Or.inr hg)))) rfl rfl (hM _ _ (by decide)) wl618 wl619 wl620 wl42 wl621 (by decide +kernel) (by refine ⟨?_, ?_⟩ <;> dsimp only <;> omega) ⟨rfl, rfl⟩ (by decide) rfl rfl (Nat.le_of_ble_eq_true rfl) rfl (q := 468) rfl (fun r465 τ465 e465 => ?_)
  obtain ⟨rfl, hfM⟩ := e465
  refine q_icmp_eq X (tgt := 612) (q := 471) d_L_law_468 (by decide) rfl (fun h468 => ?_) (fun h468 => ?_)
  · have _b468 := True.intro
    exact K612 (h) (v) τ465 _ _ _ _ (by first | omega | (dsimp only; omega)) (by first | omega | (dsimp only; omega)) hw hv (jHs_keep (jHs_keep hs (fun g hg => hfJ g (Or.inl hg))) (fun g hg => hfM.1 g (by omega) (by omega))) (jMs_keep (jMs_far hm (fun g hg _ => hfJ g (Or.inr hg))) hfM)
  · have _b468 := True.intro
    exact absurd rfl h468
set_option maxRecDepth 100000 in
set_option maxHeartbeats 40000000 in
theorem jlaw_level {Γ : jxG} {Θ : jxT} {l : Launch} {f : Nat → Int32} {nf : Nat} {Q : State → Prop} (hI : jxI Θ) (htr : l.stackTraces = false) (hC : ∀ g r, r < jrwJ g → Θ.2.2.2 g r) (hM : ∀ g r, r < jrwM g → Θ.2.2.2 g r) (hO : Θ.2.2.2 60 0) (X : jxOk Γ Θ l b_L_law 7 "HistoryJudgeLaw" (some FieldType.boolean) room_1) (Z : jxOkW Γ Θ f nf) {i : Nat} (hi : 4 * i + 4 ≤ nf) (hn31 : nf < 2 ^ 30) (hB : 63 + i + 1 ≤ room_1.cells ∧ 1572 + 6 * i + 6 ≤ room_1.slots) {h : jH} {v : jV} {σ : jxM} (hw : jHw h) (hv : jVc h v) (hs : jHs h σ) (hm : jMs h v σ) (K612 : ∀ (h' : jH) (v' : jV) (τ : jxM) (k n : Nat) (a5 a6 : Option jxV), k ≤ 63 + i + 1 → n ≤ 1572 + 6 * i + 6 → jHw h' → jVc h' v' → jHs h' τ → jMs h' v' τ → jxWq Γ Θ (Q, k, n) 612 [some (.inr (61, 0)), some (.inr (0, 0)), some (.inr (40, 0)), some (.inr (60, 0)), some (.inl (nI (4 * i))), a5, a6] [] τ) : jxWq Γ Θ (Q, 63 + i, 1572 + 6 * i) 473 [some (.inr (61, 0)), some (.inr (0, 0)), some (.inr (40, 0)), some (.inr (60, 0)), some (.inl (nI (4 * i))), none, none] [] σ := by
  have bV := jHw_V hw
  have bR := jHw_R hw
  refine q_aload_n X (q := 474) d_L_law_473 rfl rfl ?_
  refine q_callV X (n := 0) (C := jR4) (T := jT4) (N := 4) d_L_law_474 (c_J_level hI hC hw hs) rfl rfl (hC _ _ (by decide)) wl271 wl272 wl273 wl36 wl274 (by decide +kernel) (by refine ⟨?_, ?_⟩ <;> dsimp only <;> omega) ⟨rfl, rfl⟩ (by decide) rfl rfl (Nat.le_of_ble_eq_true rfl) rfl (q := 477) rfl (fun r474 τ474 e474 => ?_)
  obtain ⟨rfl, hfJ⟩ := e474
  refine q_aload_n X (q := 478) d_L_law_477 rfl rfl ?_
  refine q_callV X (n := 0) (C := jR5) (T := jT5) (N := 18) d_L_law_478 (c_M_level hI hM hw hv (jMs_far hm (fun g hg _ => hfJ g (Or.inr hg)))) rfl rfl (hM _ _ (by decide)) wl628 wl629 wl630 wl42 wl631 (by decide +kernel) (by refine ⟨?_, ?_⟩ <;> dsimp only <;> omega) ⟨rfl, rfl⟩ (by decide) rfl rfl (Nat.le_of_ble_eq_true rfl) rfl (q := 481) rfl (fun r478 τ478 e478 => ?_)
  obtain ⟨rfl, hfM⟩ := e478
  refine q_icmp_eq X (tgt := 612) (q := 484) d_L_law_481 (by decide) rfl (fun h481 => ?_) (fun h481 => ?_)
  · have _b481 := True.intro
    exact K612 (h) (v) τ478 _ _ _ _ (by first | omega | (dsimp only; omega)) (by first | omega | (dsimp only; omega)) hw hv (jHs_keep (jHs_keep hs (fun g hg => hfJ g (Or.inl hg))) (fun g hg => hfM.1 g (by omega) (by omega))) (jMs_keep (jMs_far hm (fun g hg _ => hfJ g (Or.inr hg))) hfM)
  · have _b481 := True.intro
    exact absurd rfl h481
set_option maxRecDepth 100000 in
set_option maxHeartbeats 40000000 in
theorem jlaw_cycle {Γ : jxG} {Θ : jxT} {l : Launch} {f : Nat → Int32} {nf : Nat} {Q : State → Prop} (hI : jxI Θ) (htr : l.stackTraces = false) (hC : ∀ g r, r < jrwJ g → Θ.2.2.2 g r) (hM : ∀ g r, r < jrwM g → Θ.2.2.2 g r) (hO : Θ.2.2.2 60 0) (X : jxOk Γ Θ l b_L_law 7 "HistoryJudgeLaw" (some FieldType.boolean) room_1) (Z : jxOkW Γ Θ f nf) {i : Nat} (hi : 4 * i + 4 ≤ nf) (hn31 : nf < 2 ^ 30) (hB : 63 + i + 1 ≤ room_1.cells ∧ 1572 + 6 * i + 6 ≤ room_1.slots) {h : jH} {v : jV} {σ : jxM} (hw : jHw h) (hv : jVc h v) (hs : jHs h σ) (hm : jMs h v σ) (K612 : ∀ (h' : jH) (v' : jV) (τ : jxM) (k n : Nat) (a5 a6 : Option jxV), k ≤ 63 + i + 1 → n ≤ 1572 + 6 * i + 6 → jHw h' → jVc h' v' → jHs h' τ → jMs h' v' τ → jxWq Γ Θ (Q, k, n) 612 [some (.inr (61, 0)), some (.inr (0, 0)), some (.inr (40, 0)), some (.inr (60, 0)), some (.inl (nI (4 * i))), a5, a6] [] τ) : jxWq Γ Θ (Q, 63 + i, 1572 + 6 * i) 486 [some (.inr (61, 0)), some (.inr (0, 0)), some (.inr (40, 0)), some (.inr (60, 0)), some (.inl (nI (4 * i))), none, none] [] σ := by
  have bV := jHw_V hw
  have bR := jHw_R hw
  refine q_aload_n X (q := 487) d_L_law_486 rfl rfl ?_
  refine q_aload_n X (q := 488) d_L_law_487 rfl rfl ?_
  refine q_iload X (q := 490) d_L_law_488 rfl rfl ?_
  refine q_iconst X (v := (nI 1)) (q := 491) d_L_law_490 (by decide +kernel) rfl ?_
  refine q_iadd X (q := 492) d_L_law_491 rfl ?_
  refine q_scr X Z (j := 4 * i + 1) (q := 493) d_L_law_492 (nI_add _ _) (by omega) rfl ?_
  refine q_callV X (n := 1) (C := jR4) (T := jT4) (N := 4) d_L_law_493 (c_J_cycle hI hC hw hs (f (4 * i + 1))) rfl rfl (hC _ _ (by decide)) wl276 wl277 wl278 wl36 wl279 (by decide +kernel) (by refine ⟨?_, ?_⟩ <;> dsimp only <;> omega) ⟨rfl, rfl⟩ (by decide) rfl rfl (Nat.le_of_ble_eq_true rfl) rfl (q := 496) rfl (fun r493 τ493 e493 => ?_)
  obtain ⟨⟨len, hl8, rfl, e1, a1⟩, hfJ⟩ := e493
  refine q_aload_n X (q := 497) d_L_law_496 rfl rfl ?_
  refine q_aload_n X (q := 498) d_L_law_497 rfl rfl ?_
  refine q_iload X (q := 500) d_L_law_498 rfl rfl ?_
  refine q_iconst X (v := (nI 1)) (q := 501) d_L_law_500 (by decide +kernel) rfl ?_
  refine q_iadd X (q := 502) d_L_law_501 rfl ?_
  refine q_scr X Z (j := 4 * i + 1) (q := 503) d_L_law_502 (nI_add _ _) (by omega) rfl ?_
  refine q_callV X (n := 1) (C := jR5) (T := jT5) (N := 18) d_L_law_503 (c_M_cycle hI hM hw hv (jMs_far hm (fun g hg _ => hfJ g (Or.inr hg))) (f (4 * i + 1))) rfl rfl (hM _ _ (by decide)) wl589 wl590 wl591 wl42 wl592 (by decide +kernel) (by refine ⟨?_, ?_⟩ <;> dsimp only <;> omega) ⟨rfl, rfl⟩ (by decide) rfl rfl (Nat.le_of_ble_eq_true rfl) rfl (q := 506) rfl (fun r503 τ503 e503 => ?_)
  obtain ⟨⟨len', hl8', rfl, e2, b1⟩, hfM⟩ := e503
  refine q_icmp_eq X (tgt := 612) (q := 509) d_L_law_506 (by decide) rfl (fun h506 => ?_) (fun h506 => ?_)
  · have _b506 := True.intro
    exact K612 (h) (v) τ503 _ _ _ _ (by first | omega | (dsimp only; omega)) (by first | omega | (dsimp only; omega)) hw hv (jHs_keep (jHs_keep hs (fun g hg => hfJ g (Or.inl hg))) (fun g hg => hfM.1 g (by omega) (by omega))) (jMs_keep (jMs_far hm (fun g hg _ => hfJ g (Or.inr hg))) hfM)
  · have _b506 := True.intro
    exact absurd (congrArg nI (jsame_cyc hw e1 a1 e2 b1)) h506
set_option maxRecDepth 100000 in
set_option maxHeartbeats 40000000 in
theorem jlaw_step {Γ : jxG} {Θ : jxT} {l : Launch} {f : Nat → Int32} {nf : Nat} {Q : State → Prop} (hI : jxI Θ) (htr : l.stackTraces = false) (hC : ∀ g r, r < jrwJ g → Θ.2.2.2 g r) (hM : ∀ g r, r < jrwM g → Θ.2.2.2 g r) (hO : Θ.2.2.2 60 0) (X : jxOk Γ Θ l b_L_law 7 "HistoryJudgeLaw" (some FieldType.boolean) room_1) (Z : jxOkW Γ Θ f nf) {i : Nat} (hi : 4 * i + 4 ≤ nf) (hn31 : nf < 2 ^ 30) (hB : 63 + i + 1 ≤ room_1.cells ∧ 1572 + 6 * i + 6 ≤ room_1.slots) {h : jH} {v : jV} {σ : jxM} (hw : jHw h) (hv : jVc h v) (hs : jHs h σ) (hm : jMs h v σ) (K612 : ∀ (h' : jH) (v' : jV) (τ : jxM) (k n : Nat) (a5 a6 : Option jxV), k ≤ 63 + i + 1 → n ≤ 1572 + 6 * i + 6 → jHw h' → jVc h' v' → jHs h' τ → jMs h' v' τ → jxWq Γ Θ (Q, k, n) 612 [some (.inr (61, 0)), some (.inr (0, 0)), some (.inr (40, 0)), some (.inr (60, 0)), some (.inl (nI (4 * i))), a5, a6] [] τ) : jxWq Γ Θ (Q, 63 + i, 1572 + 6 * i) 511 [some (.inr (61, 0)), some (.inr (0, 0)), some (.inr (40, 0)), some (.inr (60, 0)), some (.inl (nI (4 * i))), none, none] [] σ := by
  have bV := jHw_V hw
  have bR := jHw_R hw
  refine q_aload_n X (q := 512) d_L_law_511 rfl rfl ?_
  refine q_aload_n X (q := 513) d_L_law_512 rfl rfl ?_
  refine q_iload X (q := 515) d_L_law_513 rfl rfl ?_
  refine q_iconst X (v := (nI 1)) (q := 516) d_L_law_515 (by decide +kernel) rfl ?_
  refine q_iadd X (q := 517) d_L_law_516 rfl ?_
  refine q_scr X Z (j := 4 * i + 1) (q := 518) d_L_law_517 (nI_add _ _) (by omega) rfl ?_
  refine q_aload_n X (q := 519) d_L_law_518 rfl rfl ?_
  refine q_iload X (q := 521) d_L_law_519 rfl rfl ?_
  refine q_iconst X (v := (nI 2)) (q := 522) d_L_law_521 (by decide +kernel) rfl ?_
  refine q_iadd X (q := 523) d_L_law_522 rfl ?_
  refine q_scr X Z (j := 4 * i + 2) (q := 524) d_L_law_523 (nI_add _ _) (by omega) rfl ?_
  refine q_callV X (n := 2) (C := jR4) (T := jT4) (N := 4) d_L_law_524 (c_J_step hI hC hw hs (f (4 * i + 1)) (f (4 * i + 2))) rfl rfl (hC _ _ (by decide)) wl280 wl281 wl282 wl36 wl283 (by decide +kernel) (by refine ⟨?_, ?_⟩ <;> dsimp only <;> omega) ⟨rfl, rfl⟩ (by decide) rfl rfl (Nat.le_of_ble_eq_true rfl) rfl (q := 527) rfl (fun r524 τ524 e524 => ?_)
  obtain ⟨⟨y1, rfl, e1, a1⟩, hfJ⟩ := e524
  refine q_aload_n X (q := 528) d_L_law_527 rfl rfl ?_
  refine q_aload_n X (q := 529) d_L_law_528 rfl rfl ?_
  refine q_iload X (q := 531) d_L_law_529 rfl rfl ?_
  refine q_iconst X (v := (nI 1)) (q := 532) d_L_law_531 (by decide +kernel) rfl ?_
  refine q_iadd X (q := 533) d_L_law_532 rfl ?_
  refine q_scr X Z (j := 4 * i + 1) (q := 534) d_L_law_533 (nI_add _ _) (by omega) rfl ?_
  refine q_aload_n X (q := 535) d_L_law_534 rfl rfl ?_
  refine q_iload X (q := 537) d_L_law_535 rfl rfl ?_
  refine q_iconst X (v := (nI 2)) (q := 538) d_L_law_537 (by decide +kernel) rfl ?_
  refine q_iadd X (q := 539) d_L_law_538 rfl ?_
  refine q_scr X Z (j := 4 * i + 2) (q := 540) d_L_law_539 (nI_add _ _) (by omega) rfl ?_
  refine q_callV X (n := 2) (C := jR5) (T := jT5) (N := 18) d_L_law_540 (c_M_step hI hM hw hv (jMs_far hm (fun g hg _ => hfJ g (Or.inr hg))) (f (4 * i + 1)) (f (4 * i + 2))) rfl rfl (hM _ _ (by decide)) wl614 wl615 wl616 wl42 wl617 (by decide +kernel) (by refine ⟨?_, ?_⟩ <;> dsimp only <;> omega) ⟨rfl, rfl⟩ (by decide) rfl rfl (Nat.le_of_ble_eq_true rfl) rfl (q := 543) rfl (fun r540 τ540 e540 => ?_)
  obtain ⟨⟨y2, rfl, e2, b1⟩, hfM⟩ := e540
  refine q_icmp_eq X (tgt := 612) (q := 546) d_L_law_543 (by decide) rfl (fun h543 => ?_) (fun h543 => ?_)
  · have _b543 := True.intro
    exact K612 (h) (v) τ540 _ _ _ _ (by first | omega | (dsimp only; omega)) (by first | omega | (dsimp only; omega)) hw hv (jHs_keep (jHs_keep hs (fun g hg => hfJ g (Or.inl hg))) (fun g hg => hfM.1 g (by omega) (by omega))) (jMs_keep (jMs_far hm (fun g hg _ => hfJ g (Or.inr hg))) hfM)
  · have _b543 := True.intro
    exact absurd (jsame_step hw e1 a1 e2 b1) h543
set_option maxRecDepth 100000 in
set_option maxHeartbeats 40000000 in
theorem jlaw_serial {Γ : jxG} {Θ : jxT} {l : Launch} {f : Nat → Int32} {nf : Nat} {Q : State → Prop} (hI : jxI Θ) (htr : l.stackTraces = false) (hC : ∀ g r, r < jrwJ g → Θ.2.2.2 g r) (hM : ∀ g r, r < jrwM g → Θ.2.2.2 g r) (hO : Θ.2.2.2 60 0) (X : jxOk Γ Θ l b_L_law 7 "HistoryJudgeLaw" (some FieldType.boolean) room_1) (Z : jxOkW Γ Θ f nf) {i : Nat} (hi : 4 * i + 4 ≤ nf) (hn31 : nf < 2 ^ 30) (hB : 63 + i + 1 ≤ room_1.cells ∧ 1572 + 6 * i + 6 ≤ room_1.slots) {h : jH} {v : jV} {σ : jxM} (hw : jHw h) (hv : jVc h v) (hs : jHs h σ) (hm : jMs h v σ) (K612 : ∀ (h' : jH) (v' : jV) (τ : jxM) (k n : Nat) (a5 a6 : Option jxV), k ≤ 63 + i + 1 → n ≤ 1572 + 6 * i + 6 → jHw h' → jVc h' v' → jHs h' τ → jMs h' v' τ → jxWq Γ Θ (Q, k, n) 612 [some (.inr (61, 0)), some (.inr (0, 0)), some (.inr (40, 0)), some (.inr (60, 0)), some (.inl (nI (4 * i))), a5, a6] [] τ) : jxWq Γ Θ (Q, 63 + i, 1572 + 6 * i) 548 [some (.inr (61, 0)), some (.inr (0, 0)), some (.inr (40, 0)), some (.inr (60, 0)), some (.inl (nI (4 * i))), none, none] [] σ := by
  have bV := jHw_V hw
  have bR := jHw_R hw
  refine q_aload_n X (q := 549) d_L_law_548 rfl rfl ?_
  refine q_callV X (n := 0) (C := jR4) (T := jT4) (N := 4) d_L_law_549 (c_J_serial hI hC hw hs) rfl rfl (hC _ _ (by decide)) wl285 wl286 wl287 wl36 wl288 (by decide +kernel) (by refine ⟨?_, ?_⟩ <;> dsimp only <;> omega) ⟨rfl, rfl⟩ (by decide) rfl rfl (Nat.le_of_ble_eq_true rfl) rfl (q := 552) rfl (fun r549 τ549 e549 => ?_)
  obtain ⟨rfl, hfJ⟩ := e549
  refine q_aload_n X (q := 553) d_L_law_552 rfl rfl ?_
  refine q_callV X (n := 0) (C := jR5) (T := jT5) (N := 18) d_L_law_553 (c_M_serial hI hM hw hv (jMs_far hm (fun g hg _ => hfJ g (Or.inr hg)))) rfl rfl (hM _ _ (by decide)) wl632 wl633 wl634 wl42 wl635 (by decide +kernel) (by refine ⟨?_, ?_⟩ <;> dsimp only <;> omega) ⟨rfl, rfl⟩ (by decide) rfl rfl (Nat.le_of_ble_eq_true rfl) rfl (q := 556) rfl (fun r553 τ553 e553 => ?_)
  obtain ⟨rfl, hfM⟩ := e553
  refine q_icmp_eq X (tgt := 612) (q := 559) d_L_law_556 (by decide) rfl (fun h556 => ?_) (fun h556 => ?_)
  · have _b556 := True.intro
    exact K612 (h) (v) τ553 _ _ _ _ (by first | omega | (dsimp only; omega)) (by first | omega | (dsimp only; omega)) hw hv (jHs_keep (jHs_keep hs (fun g hg => hfJ g (Or.inl hg))) (fun g hg => hfM.1 g (by omega) (by omega))) (jMs_keep (jMs_far hm (fun g hg _ => hfJ g (Or.inr hg))) hfM)
  · have _b556 := True.intro
    exact absurd (congrArg jB (jVo_ser hw hv).symm) h556
set_option maxRecDepth 100000 in
set_option maxHeartbeats 40000000 in
theorem jlaw_place {Γ : jxG} {Θ : jxT} {l : Launch} {f : Nat → Int32} {nf : Nat} {Q : State → Prop} (hI : jxI Θ) (htr : l.stackTraces = false) (hC : ∀ g r, r < jrwJ g → Θ.2.2.2 g r) (hM : ∀ g r, r < jrwM g → Θ.2.2.2 g r) (hO : Θ.2.2.2 60 0) (X : jxOk Γ Θ l b_L_law 7 "HistoryJudgeLaw" (some FieldType.boolean) room_1) (Z : jxOkW Γ Θ f nf) {i : Nat} (hi : 4 * i + 4 ≤ nf) (hn31 : nf < 2 ^ 30) (hB : 63 + i + 1 ≤ room_1.cells ∧ 1572 + 6 * i + 6 ≤ room_1.slots) {h : jH} {v : jV} {σ : jxM} (hw : jHw h) (hv : jVc h v) (hs : jHs h σ) (hm : jMs h v σ) (K612 : ∀ (h' : jH) (v' : jV) (τ : jxM) (k n : Nat) (a5 a6 : Option jxV), k ≤ 63 + i + 1 → n ≤ 1572 + 6 * i + 6 → jHw h' → jVc h' v' → jHs h' τ → jMs h' v' τ → jxWq Γ Θ (Q, k, n) 612 [some (.inr (61, 0)), some (.inr (0, 0)), some (.inr (40, 0)), some (.inr (60, 0)), some (.inl (nI (4 * i))), a5, a6] [] τ) : jxWq Γ Θ (Q, 63 + i, 1572 + 6 * i) 561 [some (.inr (61, 0)), some (.inr (0, 0)), some (.inr (40, 0)), some (.inr (60, 0)), some (.inl (nI (4 * i))), none, none] [] σ := by
  have bV := jHw_V hw
  have bR := jHw_R hw
  refine q_aload_n X (q := 562) d_L_law_561 rfl rfl ?_
  refine q_aload_n X (q := 563) d_L_law_562 rfl rfl ?_
  refine q_iload X (q := 565) d_L_law_563 rfl rfl ?_
  refine q_iconst X (v := (nI 1)) (q := 566) d_L_law_565 (by decide +kernel) rfl ?_
  refine q_iadd X (q := 567) d_L_law_566 rfl ?_
  refine q_scr X Z (j := 4 * i + 1) (q := 568) d_L_law_567 (nI_add _ _) (by omega) rfl ?_
  refine q_callV X (n := 1) (C := jR4) (T := jT4) (N := 4) d_L_law_568 (c_J_place hI hC hw hs (f (4 * i + 1))) rfl rfl (hC _ _ (by decide)) wl329 wl330 wl331 wl36 wl332 (by decide +kernel) (by refine ⟨?_, ?_⟩ <;> dsimp only <;> omega) ⟨rfl, rfl⟩ (by decide) rfl rfl (Nat.le_of_ble_eq_true rfl) rfl (q := 571) rfl (fun r568 τ568 e568 => ?_)
  obtain ⟨⟨y1, rfl, a1, a2⟩, hfJ⟩ := e568
  refine q_aload_n X (q := 572) d_L_law_571 rfl rfl ?_
  refine q_aload_n X (q := 573) d_L_law_572 rfl rfl ?_
  refine q_iload X (q := 575) d_L_law_573 rfl rfl ?_
  refine q_iconst X (v := (nI 1)) (q := 576) d_L_law_575 (by decide +kernel) rfl ?_
  refine q_iadd X (q := 577) d_L_law_576 rfl ?_
  refine q_scr X Z (j := 4 * i + 1) (q := 578) d_L_law_577 (nI_add _ _) (by omega) rfl ?_
  refine q_callV X (n := 1) (C := jR5) (T := jT5) (N := 18) d_L_law_578 (c_M_place hI hM hw hv (jMs_far hm (fun g hg _ => hfJ g (Or.inr hg))) (f (4 * i + 1))) rfl rfl (hM _ _ (by decide)) wl645 wl646 wl647 wl42 wl648 (by decide +kernel) (by refine ⟨?_, ?_⟩ <;> dsimp only <;> omega) ⟨rfl, rfl⟩ (by decide) rfl rfl (Nat.le_of_ble_eq_true rfl) rfl (q := 581) rfl (fun r578 τ578 e578 => ?_)
  obtain ⟨⟨y2, rfl, b1, b2⟩, hfM⟩ := e578
  refine q_icmp_eq X (tgt := 612) (q := 584) d_L_law_581 (by decide) rfl (fun h581 => ?_) (fun h581 => ?_)
  · have _b581 := True.intro
    exact K612 (h) (v) τ578 _ _ _ _ (by first | omega | (dsimp only; omega)) (by first | omega | (dsimp only; omega)) hw hv (jHs_keep (jHs_keep hs (fun g hg => hfJ g (Or.inl hg))) (fun g hg => hfM.1 g (by omega) (by omega))) (jMs_keep (jMs_far hm (fun g hg _ => hfJ g (Or.inr hg))) hfM)
  · have _b581 := True.intro
    exact absurd (jsame_place hw hv a1 a2 b1 b2) h581
set_option maxRecDepth 100000 in
set_option maxHeartbeats 40000000 in
theorem jlaw_beginnings {Γ : jxG} {Θ : jxT} {l : Launch} {f : Nat → Int32} {nf : Nat} {Q : State → Prop} (hI : jxI Θ) (htr : l.stackTraces = false) (hC : ∀ g r, r < jrwJ g → Θ.2.2.2 g r) (hM : ∀ g r, r < jrwM g → Θ.2.2.2 g r) (hO : Θ.2.2.2 60 0) (X : jxOk Γ Θ l b_L_law 7 "HistoryJudgeLaw" (some FieldType.boolean) room_1) (Z : jxOkW Γ Θ f nf) {i : Nat} (hi : 4 * i + 4 ≤ nf) (hn31 : nf < 2 ^ 30) (hB : 63 + i + 1 ≤ room_1.cells ∧ 1572 + 6 * i + 6 ≤ room_1.slots) {h : jH} {v : jV} {σ : jxM} (hw : jHw h) (hv : jVc h v) (hs : jHs h σ) (hm : jMs h v σ) (K612 : ∀ (h' : jH) (v' : jV) (τ : jxM) (k n : Nat) (a5 a6 : Option jxV), k ≤ 63 + i + 1 → n ≤ 1572 + 6 * i + 6 → jHw h' → jVc h' v' → jHs h' τ → jMs h' v' τ → jxWq Γ Θ (Q, k, n) 612 [some (.inr (61, 0)), some (.inr (0, 0)), some (.inr (40, 0)), some (.inr (60, 0)), some (.inl (nI (4 * i))), a5, a6] [] τ) : jxWq Γ Θ (Q, 63 + i, 1572 + 6 * i) 586 [some (.inr (61, 0)), some (.inr (0, 0)), some (.inr (40, 0)), some (.inr (60, 0)), some (.inl (nI (4 * i))), none, none] [] σ := by
  have bV := jHw_V hw
  have bR := jHw_R hw
  refine q_aload_n X (q := 587) d_L_law_586 rfl rfl ?_
  refine q_callV X (n := 0) (C := jR4) (T := jT4) (N := 4) d_L_law_587 (c_J_beginnings hI hC hw hs) rfl rfl (hC _ _ (by decide)) wl344 wl345 wl346 wl36 wl347 (by decide +kernel) (by refine ⟨?_, ?_⟩ <;> dsimp only <;> omega) ⟨rfl, rfl⟩ (by decide) rfl rfl (Nat.le_of_ble_eq_true rfl) rfl (q := 590) rfl (fun r587 τ587 e587 => ?_)
  obtain ⟨rfl, hfJ⟩ := e587
  refine q_aload_n X (q := 591) d_L_law_590 rfl rfl ?_
  refine q_callV X (n := 0) (C := jR5) (T := jT5) (N := 18) d_L_law_591 (c_M_beginnings hI hM hw hv (jMs_far hm (fun g hg _ => hfJ g (Or.inr hg)))) rfl rfl (hM _ _ (by decide)) wl649 wl650 wl651 wl42 wl652 (by decide +kernel) (by refine ⟨?_, ?_⟩ <;> dsimp only <;> omega) ⟨rfl, rfl⟩ (by decide) rfl rfl (Nat.le_of_ble_eq_true rfl) rfl (q := 594) rfl (fun r591 τ591 e591 => ?_)
  obtain ⟨rfl, hfM⟩ := e591
  refine q_icmp_eq X (tgt := 612) (q := 597) d_L_law_594 (by decide) rfl (fun h594 => ?_) (fun h594 => ?_)
  · have _b594 := True.intro
    exact K612 (h) (v) τ591 _ _ _ _ (by first | omega | (dsimp only; omega)) (by first | omega | (dsimp only; omega)) hw hv (jHs_keep (jHs_keep hs (fun g hg => hfJ g (Or.inl hg))) (fun g hg => hfM.1 g (by omega) (by omega))) (jMs_keep (jMs_far hm (fun g hg _ => hfJ g (Or.inr hg))) hfM)
  · have _b594 := True.intro
    exact absurd (congrArg nI (jVo_beg hw hv).symm) h594
set_option maxRecDepth 100000 in
set_option maxHeartbeats 40000000 in
theorem jlaw_clear {Γ : jxG} {Θ : jxT} {l : Launch} {f : Nat → Int32} {nf : Nat} {Q : State → Prop} (hI : jxI Θ) (htr : l.stackTraces = false) (hC : ∀ g r, r < jrwJ g → Θ.2.2.2 g r) (hM : ∀ g r, r < jrwM g → Θ.2.2.2 g r) (hO : Θ.2.2.2 60 0) (X : jxOk Γ Θ l b_L_law 7 "HistoryJudgeLaw" (some FieldType.boolean) room_1) (Z : jxOkW Γ Θ f nf) {i : Nat} (hi : 4 * i + 4 ≤ nf) (hn31 : nf < 2 ^ 30) (hB : 63 + i + 1 ≤ room_1.cells ∧ 1572 + 6 * i + 6 ≤ room_1.slots) {h : jH} {v : jV} {σ : jxM} (hw : jHw h) (hv : jVc h v) (hs : jHs h σ) (hm : jMs h v σ) (K612 : ∀ (h' : jH) (v' : jV) (τ : jxM) (k n : Nat) (a5 a6 : Option jxV), k ≤ 63 + i + 1 → n ≤ 1572 + 6 * i + 6 → jHw h' → jVc h' v' → jHs h' τ → jMs h' v' τ → jxWq Γ Θ (Q, k, n) 612 [some (.inr (61, 0)), some (.inr (0, 0)), some (.inr (40, 0)), some (.inr (60, 0)), some (.inl (nI (4 * i))), a5, a6] [] τ) : jxWq Γ Θ (Q, 63 + i, 1572 + 6 * i) 599 [some (.inr (61, 0)), some (.inr (0, 0)), some (.inr (40, 0)), some (.inr (60, 0)), some (.inl (nI (4 * i))), none, none] [] σ := by
  have bV := jHw_V hw
  have bR := jHw_R hw
  refine q_aload_n X (q := 600) d_L_law_599 rfl rfl ?_
  refine q_callV X (n := 0) (C := jR4) (T := jT4) (N := 4) d_L_law_600 (c_J_clear hI hC hw hs) rfl rfl (hC _ _ (by decide)) wl349 wl350 wl351 wl36 wl352 (by decide +kernel) (by refine ⟨?_, ?_⟩ <;> dsimp only <;> omega) ⟨rfl, rfl⟩ (by decide) rfl rfl (Nat.le_of_ble_eq_true rfl) rfl (q := 603) rfl (fun r600 τ600 e600 => ?_)
  obtain ⟨rfl, hs0, hfJ⟩ := e600
  refine q_aload_n X (q := 604) d_L_law_603 rfl rfl ?_
  refine q_callV X (n := 0) (C := jR5) (T := jT5) (N := 18) d_L_law_604 (c_M_clear hI hM hw hv (jMs_far hm (fun g hg _ => hfJ g (by omega)))) rfl rfl (hM _ _ (by decide)) wl563 wl564 wl565 wl42 wl566 (by decide +kernel) (by refine ⟨?_, ?_⟩ <;> dsimp only <;> omega) ⟨rfl, rfl⟩ (by decide) rfl rfl (Nat.le_of_ble_eq_true rfl) rfl (q := 607) rfl (fun r604 τ604 e604 => ?_)
  obtain ⟨rfl, hm0, hfM⟩ := e604
  refine q_icmp_eq X (tgt := 612) (q := 610) d_L_law_607 (by decide) rfl (fun h607 => ?_) (fun h607 => ?_)
  · have _b607 := True.intro
    exact K612 (jh0) (jv0) τ604 _ _ _ _ (by first | omega | (dsimp only; omega)) (by first | omega | (dsimp only; omega)) jHw_0 jVc_0 (jHs_keep hs0 (fun g hg => hfM g (by omega))) hm0
  · have _b607 := True.intro
    exact absurd rfl h607
set_option maxRecDepth 100000 in
set_option maxHeartbeats 40000000 in
theorem jlaw_exchange {Γ : jxG} {Θ : jxT} {l : Launch} {f : Nat → Int32} {nf : Nat} {Q : State → Prop} (hI : jxI Θ) (htr : l.stackTraces = false) (hC : ∀ g r, r < jrwJ g → Θ.2.2.2 g r) (hM : ∀ g r, r < jrwM g → Θ.2.2.2 g r) (hO : Θ.2.2.2 60 0) (X : jxOk Γ Θ l b_L_law 7 "HistoryJudgeLaw" (some FieldType.boolean) room_1) (Z : jxOkW Γ Θ f nf) {i : Nat} (hi : 4 * i + 4 ≤ nf) (hn31 : nf < 2 ^ 30) (hB : 63 + i + 1 ≤ room_1.cells ∧ 1572 + 6 * i + 6 ≤ room_1.slots) {h : jH} {v : jV} {σ : jxM} (hw : jHw h) (hv : jVc h v) (hs : jHs h σ) (hm : jMs h v σ) (K612 : ∀ (h' : jH) (v' : jV) (τ : jxM) (k n : Nat) (a5 a6 : Option jxV), k ≤ 63 + i + 1 → n ≤ 1572 + 6 * i + 6 → jHw h' → jVc h' v' → jHs h' τ → jMs h' v' τ → jxWq Γ Θ (Q, k, n) 612 [some (.inr (61, 0)), some (.inr (0, 0)), some (.inr (40, 0)), some (.inr (60, 0)), some (.inl (nI (4 * i))), a5, a6] [] τ) : jxWq Γ Θ (Q, 63 + i, 1572 + 6 * i) 386 [some (.inr (61, 0)), some (.inr (0, 0)), some (.inr (40, 0)), some (.inr (60, 0)), some (.inl (nI (4 * i))), none, none] [] σ := by
  have bV := jHw_V hw
  have bR := jHw_R hw
  refine q_aload_n X (q := 387) d_L_law_386 rfl rfl ?_
  refine q_aload_n X (q := 388) d_L_law_387 rfl rfl ?_
  refine q_iload X (q := 390) d_L_law_388 rfl rfl ?_
  refine q_iconst X (v := (nI 1)) (q := 391) d_L_law_390 (by decide +kernel) rfl ?_
  refine q_iadd X (q := 392) d_L_law_391 rfl ?_
  refine q_scr X Z (j := 4 * i + 1) (q := 393) d_L_law_392 (nI_add _ _) (by omega) rfl ?_
  refine q_aload_n X (q := 394) d_L_law_393 rfl rfl ?_
  refine q_iload X (q := 396) d_L_law_394 rfl rfl ?_
  refine q_iconst X (v := (nI 2)) (q := 397) d_L_law_396 (by decide +kernel) rfl ?_
  refine q_iadd X (q := 398) d_L_law_397 rfl ?_
  refine q_scr X Z (j := 4 * i + 2) (q := 399) d_L_law_398 (nI_add _ _) (by omega) rfl ?_
  refine q_callV X (n := 2) (C := jR4) (T := jT4) (N := 4) d_L_law_399 (c_J_exchange hI hC hw hs (f (4 * i + 1)) (f (4 * i + 2))) rfl rfl (hC _ _ (by decide)) wl188 wl189 wl190 wl36 wl191 (by decide +kernel) (by refine ⟨?_, ?_⟩ <;> dsimp only <;> omega) ⟨rfl, rfl⟩ (by decide) rfl rfl (Nat.le_of_ble_eq_true rfl) rfl (q := 402) rfl (fun r399 τ399 e399 => ?_)
  obtain ⟨⟨b1, rfl, hb1, hb2, hb3⟩, hfJ⟩ := e399
  refine q_aload_n X (q := 403) d_L_law_402 rfl rfl ?_
  refine q_aload_n X (q := 404) d_L_law_403 rfl rfl ?_
  refine q_iload X (q := 406) d_L_law_404 rfl rfl ?_
  refine q_iconst X (v := (nI 1)) (q := 407) d_L_law_406 (by decide +kernel) rfl ?_
  refine q_iadd X (q := 408) d_L_law_407 rfl ?_
  refine q_scr X Z (j := 4 * i + 1) (q := 409) d_L_law_408 (nI_add _ _) (by omega) rfl ?_
  refine q_aload_n X (q := 410) d_L_law_409 rfl rfl ?_
  refine q_iload X (q := 412) d_L_law_410 rfl rfl ?_
  refine q_iconst X (v := (nI 2)) (q := 413) d_L_law_412 (by decide +kernel) rfl ?_
  refine q_iadd X (q := 414) d_L_law_413 rfl ?_
  refine q_scr X Z (j := 4 * i + 2) (q := 415) d_L_law_414 (nI_add _ _) (by omega) rfl ?_
  refine q_callV X (n := 2) (C := jR5) (T := jT5) (N := 18) d_L_law_415 (c_M_exchange hI hM hw hv (jMs_far hm (fun g hg _ => hfJ g (by omega))) (f (4 * i + 1)) (f (4 * i + 2))) rfl rfl (hM _ _ (by decide)) wl559 wl560 wl561 wl42 wl562 (by decide +kernel) (by refine ⟨?_, ?_⟩ <;> dsimp only <;> omega) ⟨rfl, rfl⟩ (by decide) rfl rfl (Nat.le_of_ble_eq_true rfl) rfl (q := 418) rfl (fun r415 τ415 e415 => ?_)
  obtain ⟨⟨b2, rfl, hb4, hb5, hb6⟩, hfM⟩ := e415
  have eb : b1 = b2 := Bool.eq_iff_iff.mpr (hb1.trans hb4.symm)
  subst eb
  refine q_icmp_eq X (tgt := 612) (q := 421) d_L_law_418 (by decide) rfl (fun h418 => ?_) (fun h418 => ?_)
  · have _b418 := True.intro
    cases b1 with
    | false =>
      have e9 := hb2 rfl
      subst e9
      exact K612 (h) (v) τ415 _ _ _ _ (by first | omega | (dsimp only; omega)) (by first | omega | (dsimp only; omega)) hw hv (jHs_keep hs (fun g hg => hfM g (by omega))) (hb5 rfl)
    | true =>
      exact K612 (jexc h (f (4 * i + 1)).toNatClampNeg (f (4 * i + 2)).toNatClampNeg) (v) τ415 _ _ _ _ (by first | omega | (dsimp only; omega)) (by first | omega | (dsimp only; omega)) (jHw_exc hw (jexc_ok hw (hb1.mp rfl))) (jVc_exc hv) (jHs_keep (hb3 rfl) (fun g hg => hfM g (by omega))) (hb6 rfl)
  · have _b418 := True.intro
    exact absurd rfl h418
set_option maxRecDepth 100000 in
set_option maxHeartbeats 40000000 in
theorem jlaw_write {Γ : jxG} {Θ : jxT} {l : Launch} {f : Nat → Int32} {nf : Nat} {Q : State → Prop} (hI : jxI Θ) (htr : l.stackTraces = false) (hC : ∀ g r, r < jrwJ g → Θ.2.2.2 g r) (hM : ∀ g r, r < jrwM g → Θ.2.2.2 g r) (hO : Θ.2.2.2 60 0) (X : jxOk Γ Θ l b_L_law 7 "HistoryJudgeLaw" (some FieldType.boolean) room_1) (Z : jxOkW Γ Θ f nf) {i : Nat} (hi : 4 * i + 4 ≤ nf) (hn31 : nf < 2 ^ 30) (hB : 63 + i + 1 ≤ room_1.cells ∧ 1572 + 6 * i + 6 ≤ room_1.slots) {h : jH} {v : jV} {σ : jxM} (hw : jHw h) (hv : jVc h v) (hs : jHs h σ) (hm : jMs h v σ) (K612 : ∀ (h' : jH) (v' : jV) (τ : jxM) (k n : Nat) (a5 a6 : Option jxV), k ≤ 63 + i + 1 → n ≤ 1572 + 6 * i + 6 → jHw h' → jVc h' v' → jHs h' τ → jMs h' v' τ → jxWq Γ Θ (Q, k, n) 612 [some (.inr (61, 0)), some (.inr (0, 0)), some (.inr (40, 0)), some (.inr (60, 0)), some (.inl (nI (4 * i))), a5, a6] [] τ) : jxWq Γ Θ (Q, 63 + i, 1572 + 6 * i) 112 [some (.inr (61, 0)), some (.inr (0, 0)), some (.inr (40, 0)), some (.inr (60, 0)), some (.inl (nI (4 * i))), none, none] [] σ := by
  have bV := jHw_V hw
  have bR := jHw_R hw
  by_cases hc : jwc h (f (4 * i + 1)) (f (4 * i + 2)) = 0
  · obtain ⟨t, x, ht, hx, ea, eb, ca, cb, hs1, hs2⟩ := jwc_0 hc
    refine q_aload_n X (q := 113) d_L_law_112 rfl rfl ?_
    refine q_aload_n X (q := 114) d_L_law_113 rfl rfl ?_
    refine q_iload X (q := 116) d_L_law_114 rfl rfl ?_
    refine q_iconst X (v := (nI 1)) (q := 117) d_L_law_116 (by decide +kernel) rfl ?_
    refine q_iadd X (q := 118) d_L_law_117 rfl ?_
    refine q_scr X Z (j := 4 * i + 1) (q := 119) d_L_law_118 (nI_add _ _) (by omega) rfl ?_
    refine q_aload_n X (q := 120) d_L_law_119 rfl rfl ?_
    refine q_iload X (q := 122) d_L_law_120 rfl rfl ?_
    refine q_iconst X (v := (nI 2)) (q := 123) d_L_law_122 (by decide +kernel) rfl ?_
    refine q_iadd X (q := 124) d_L_law_123 rfl ?_
    refine q_scr X Z (j := 4 * i + 2) (q := 125) d_L_law_124 (nI_add _ _) (by omega) rfl ?_
    refine q_aload_n X (q := 126) d_L_law_125 rfl rfl ?_
    refine q_callL X Z (n := 4) d_L_law_126 (c_L_write hI htr hC hO hw hs (f (4 * i + 1)) (f (4 * i + 2))) wl354 wl355 wl35 wl654 (by decide +kernel) (by refine ⟨?_, ?_⟩ <;> dsimp only <;> omega) ⟨rfl, rfl⟩ (by decide) rfl rfl (Nat.le_of_ble_eq_true rfl) rfl (q := 129) rfl (fun r126 τ126 e126 => ?_)
    obtain ⟨rfl, h1, h2, hf1⟩ := e126
    refine q_istore X (q := 131) d_L_law_129 (Nat.le_of_ble_eq_true rfl) rfl ?_
    refine q_aload_n X (q := 132) d_L_law_131 rfl rfl ?_
    refine q_aload_n X (q := 133) d_L_law_132 rfl rfl ?_
    refine q_iload X (q := 135) d_L_law_133 rfl rfl ?_
    refine q_iconst X (v := (nI 1)) (q := 136) d_L_law_135 (by decide +kernel) rfl ?_
    refine q_iadd X (q := 137) d_L_law_136 rfl ?_
    refine q_scr X Z (j := 4 * i + 1) (q := 138) d_L_law_137 (nI_add _ _) (by omega) rfl ?_
    refine q_aload_n X (q := 139) d_L_law_138 rfl rfl ?_
    refine q_iload X (q := 141) d_L_law_139 rfl rfl ?_
    refine q_iconst X (v := (nI 2)) (q := 142) d_L_law_141 (by decide +kernel) rfl ?_
    refine q_iadd X (q := 143) d_L_law_142 rfl ?_
    refine q_scr X Z (j := 4 * i + 2) (q := 144) d_L_law_143 (nI_add _ _) (by omega) rfl ?_
    refine q_callV X (n := 2) (C := jR5) (T := jT5) (N := 18) d_L_law_144 (c_M_write hI hM hw hv (jMs_far hm (fun g hg h60 => hf1 g (by omega) h60)) (f (4 * i + 1)) (f (4 * i + 2))) rfl rfl (hM _ _ (by decide)) wl524 wl525 wl526 wl42 wl527 (by decide +kernel) (by refine ⟨?_, ?_⟩ <;> dsimp only <;> omega) ⟨rfl, rfl⟩ (by decide) rfl rfl (Nat.le_of_ble_eq_true rfl) rfl (q := 147) rfl (fun r144 τ144 e144 => ?_)
    obtain ⟨c1, c2, c3, c4⟩ := e144
    obtain ⟨rfl, hm1⟩ := c3 hc
    have hout : τ144 60 0 0 = nI (hyV h) := by rw [c4 60 (Or.inr rfl)]; exact (h2 hc).1
    refine q_istore X (q := 149) d_L_law_147 (Nat.le_of_ble_eq_true rfl) rfl ?_
    refine q_aload_n X (q := 150) d_L_law_149 rfl rfl ?_
    refine q_callV X (n := 0) (C := jR5) (T := jT5) (N := 18) d_L_law_150 (c_M_thrown hI hM τ144) rfl rfl (hM _ _ (by decide)) wl520 wl521 wl522 wl42 wl523 (by decide +kernel) (by refine ⟨?_, ?_⟩ <;> dsimp only <;> omega) ⟨rfl, rfl⟩ (by decide) rfl rfl (Nat.le_of_ble_eq_true rfl) rfl (q := 153) rfl (fun r150 τ150 e150 => ?_)
    obtain ⟨rfl, rfl⟩ := e150
    refine q_iload X (q := 155) d_L_law_153 rfl rfl ?_
    refine q_icmp_eq X (tgt := 160) (q := 158) d_L_law_155 (by decide) rfl (fun h155 => ?_) (fun h155 => ?_)
    · have _b155 := True.intro
      refine q_iload X (q := 162) d_L_law_160 rfl rfl ?_
      refine q_nif_ne X (tgt := 177) (q := 165) d_L_law_162 (by decide) rfl (by have := jwc_4 h (f (4 * i + 1)) (f (4 * i + 2)); omega) (fun h162 => ?_) (fun h162 => ?_)
      · have _b162 := True.intro
        exact absurd hc h162
      · have _b162 := True.intro
        refine q_aload_n X (q := 166) d_L_law_165 rfl rfl ?_
        refine q_iconst X (v := (nI 0)) (q := 167) d_L_law_166 (by decide +kernel) rfl ?_
        refine q_same X (g := 60) (r := 0) (n := 1) (j := 0) (i := 6) (q := 172) d_L_law_167 d_L_law_168 d_L_law_170 d_L_law_171 rfl (by decide) rfl (by decide) hO hout rfl rfl ?_
        refine q_if_eq X (tgt := 177) (q := 175) d_L_law_172 (by decide) rfl (fun h172 => ?_) (fun h172 => ?_)
        · have _b172 := True.intro
          refine q_goto X (tgt := 612) d_L_law_177 (by decide) ?_
          exact K612 (jaddV h (f (4 * i + 1)).toNatClampNeg (f (4 * i + 2)).toNatClampNeg) (jev v (f (4 * i + 1)).toNatClampNeg (f (4 * i + 2)).toNatClampNeg (some (hyV h)) true) τ144 _ _ _ _ (by first | omega | (dsimp only; omega)) (by first | omega | (dsimp only; omega)) (by rw [ca, cb]; exact jHw_addV hw ht hx hs1 (by omega)) (by rw [ca, cb]; exact jVc_addV hv ht hx) (jHs_keep (h2 hc).2 (fun g hg => c4 g (by omega))) hm1
        · have _b172 := True.intro
          exact absurd rfl h172
    · have _b155 := True.intro
      exact absurd c1 h155
  · have hne := hc
    refine q_aload_n X (q := 113) d_L_law_112 rfl rfl ?_
    refine q_aload_n X (q := 114) d_L_law_113 rfl rfl ?_
    refine q_iload X (q := 116) d_L_law_114 rfl rfl ?_
    refine q_iconst X (v := (nI 1)) (q := 117) d_L_law_116 (by decide +kernel) rfl ?_
    refine q_iadd X (q := 118) d_L_law_117 rfl ?_
    refine q_scr X Z (j := 4 * i + 1) (q := 119) d_L_law_118 (nI_add _ _) (by omega) rfl ?_
    refine q_aload_n X (q := 120) d_L_law_119 rfl rfl ?_
    refine q_iload X (q := 122) d_L_law_120 rfl rfl ?_
    refine q_iconst X (v := (nI 2)) (q := 123) d_L_law_122 (by decide +kernel) rfl ?_
    refine q_iadd X (q := 124) d_L_law_123 rfl ?_
    refine q_scr X Z (j := 4 * i + 2) (q := 125) d_L_law_124 (nI_add _ _) (by omega) rfl ?_
    refine q_aload_n X (q := 126) d_L_law_125 rfl rfl ?_
    refine q_callL X Z (n := 4) d_L_law_126 (c_L_write hI htr hC hO hw hs (f (4 * i + 1)) (f (4 * i + 2))) wl354 wl355 wl35 wl654 (by decide +kernel) (by refine ⟨?_, ?_⟩ <;> dsimp only <;> omega) ⟨rfl, rfl⟩ (by decide) rfl rfl (Nat.le_of_ble_eq_true rfl) rfl (q := 129) rfl (fun r126 τ126 e126 => ?_)
    obtain ⟨rfl, h1, h2, hf1⟩ := e126
    refine q_istore X (q := 131) d_L_law_129 (Nat.le_of_ble_eq_true rfl) rfl ?_
    refine q_aload_n X (q := 132) d_L_law_131 rfl rfl ?_
    refine q_aload_n X (q := 133) d_L_law_132 rfl rfl ?_
    refine q_iload X (q := 135) d_L_law_133 rfl rfl ?_
    refine q_iconst X (v := (nI 1)) (q := 136) d_L_law_135 (by decide +kernel) rfl ?_
    refine q_iadd X (q := 137) d_L_law_136 rfl ?_
    refine q_scr X Z (j := 4 * i + 1) (q := 138) d_L_law_137 (nI_add _ _) (by omega) rfl ?_
    refine q_aload_n X (q := 139) d_L_law_138 rfl rfl ?_
    refine q_iload X (q := 141) d_L_law_139 rfl rfl ?_
    refine q_iconst X (v := (nI 2)) (q := 142) d_L_law_141 (by decide +kernel) rfl ?_
    refine q_iadd X (q := 143) d_L_law_142 rfl ?_
    refine q_scr X Z (j := 4 * i + 2) (q := 144) d_L_law_143 (nI_add _ _) (by omega) rfl ?_
    refine q_callV X (n := 2) (C := jR5) (T := jT5) (N := 18) d_L_law_144 (c_M_write hI hM hw hv (jMs_far hm (fun g hg h60 => hf1 g (by omega) h60)) (f (4 * i + 1)) (f (4 * i + 2))) rfl rfl (hM _ _ (by decide)) wl524 wl525 wl526 wl42 wl527 (by decide +kernel) (by refine ⟨?_, ?_⟩ <;> dsimp only <;> omega) ⟨rfl, rfl⟩ (by decide) rfl rfl (Nat.le_of_ble_eq_true rfl) rfl (q := 147) rfl (fun r144 τ144 e144 => ?_)
    obtain ⟨c1, c2, c3, c4⟩ := e144
    obtain ⟨rfl, hm1⟩ := c2 hc
    refine q_istore X (q := 149) d_L_law_147 (Nat.le_of_ble_eq_true rfl) rfl ?_
    refine q_aload_n X (q := 150) d_L_law_149 rfl rfl ?_
    refine q_callV X (n := 0) (C := jR5) (T := jT5) (N := 18) d_L_law_150 (c_M_thrown hI hM τ144) rfl rfl (hM _ _ (by decide)) wl520 wl521 wl522 wl42 wl523 (by decide +kernel) (by refine ⟨?_, ?_⟩ <;> dsimp only <;> omega) ⟨rfl, rfl⟩ (by decide) rfl rfl (Nat.le_of_ble_eq_true rfl) rfl (q := 153) rfl (fun r150 τ150 e150 => ?_)
    obtain ⟨rfl, rfl⟩ := e150
    refine q_iload X (q := 155) d_L_law_153 rfl rfl ?_
    refine q_icmp_eq X (tgt := 160) (q := 158) d_L_law_155 (by decide) rfl (fun h155 => ?_) (fun h155 => ?_)
    · have _b155 := True.intro
      refine q_iload X (q := 162) d_L_law_160 rfl rfl ?_
      refine q_nif_ne X (tgt := 177) (q := 165) d_L_law_162 (by decide) rfl (by have := jwc_4 h (f (4 * i + 1)) (f (4 * i + 2)); omega) (fun h162 => ?_) (fun h162 => ?_)
      · have _b162 := True.intro
        refine q_goto X (tgt := 612) d_L_law_177 (by decide) ?_
        have e9 := h1 hc
        subst e9
        exact K612 (h) (v) τ144 _ _ _ _ (by first | omega | (dsimp only; omega)) (by first | omega | (dsimp only; omega)) hw hv (jHs_keep hs (fun g hg => c4 g (by omega))) hm1
      · have _b162 := True.intro
        exact absurd h162 hc
    · have _b155 := True.intro
      exact absurd c1 h155
set_option maxRecDepth 100000 in
set_option maxHeartbeats 40000000 in
theorem jlaw_read {Γ : jxG} {Θ : jxT} {l : Launch} {f : Nat → Int32} {nf : Nat} {Q : State → Prop} (hI : jxI Θ) (htr : l.stackTraces = false) (hC : ∀ g r, r < jrwJ g → Θ.2.2.2 g r) (hM : ∀ g r, r < jrwM g → Θ.2.2.2 g r) (hO : Θ.2.2.2 60 0) (X : jxOk Γ Θ l b_L_law 7 "HistoryJudgeLaw" (some FieldType.boolean) room_1) (Z : jxOkW Γ Θ f nf) {i : Nat} (hi : 4 * i + 4 ≤ nf) (hn31 : nf < 2 ^ 30) (hB : 63 + i + 1 ≤ room_1.cells ∧ 1572 + 6 * i + 6 ≤ room_1.slots) {h : jH} {v : jV} {σ : jxM} (hw : jHw h) (hv : jVc h v) (hs : jHs h σ) (hm : jMs h v σ) (K612 : ∀ (h' : jH) (v' : jV) (τ : jxM) (k n : Nat) (a5 a6 : Option jxV), k ≤ 63 + i + 1 → n ≤ 1572 + 6 * i + 6 → jHw h' → jVc h' v' → jHs h' τ → jMs h' v' τ → jxWq Γ Θ (Q, k, n) 612 [some (.inr (61, 0)), some (.inr (0, 0)), some (.inr (40, 0)), some (.inr (60, 0)), some (.inl (nI (4 * i))), a5, a6] [] τ) : jxWq Γ Θ (Q, 63 + i, 1572 + 6 * i) 180 [some (.inr (61, 0)), some (.inr (0, 0)), some (.inr (40, 0)), some (.inr (60, 0)), some (.inl (nI (4 * i))), none, none] [] σ := by
  have bV := jHw_V hw
  have bR := jHw_R hw
  by_cases hc : jrc h (f (4 * i + 1)) (f (4 * i + 2)) (f (4 * i + 3)) = 0
  · obtain ⟨t, x, ht, hx, ea, eb, ca, cb, hs0, hs1, hs2⟩ := jrc_0 hc
    have hy := (jhv_o (by omega) hs0).2
    refine q_aload_n X (q := 181) d_L_law_180 rfl rfl ?_
    refine q_aload_n X (q := 182) d_L_law_181 rfl rfl ?_
    refine q_iload X (q := 184) d_L_law_182 rfl rfl ?_
    refine q_iconst X (v := (nI 1)) (q := 185) d_L_law_184 (by decide +kernel) rfl ?_
    refine q_iadd X (q := 186) d_L_law_185 rfl ?_
    refine q_scr X Z (j := 4 * i + 1) (q := 187) d_L_law_186 (nI_add _ _) (by omega) rfl ?_
    refine q_aload_n X (q := 188) d_L_law_187 rfl rfl ?_
    refine q_iload X (q := 190) d_L_law_188 rfl rfl ?_
    refine q_iconst X (v := (nI 2)) (q := 191) d_L_law_190 (by decide +kernel) rfl ?_
    refine q_iadd X (q := 192) d_L_law_191 rfl ?_
    refine q_scr X Z (j := 4 * i + 2) (q := 193) d_L_law_192 (nI_add _ _) (by omega) rfl ?_
    refine q_aload_n X (q := 194) d_L_law_193 rfl rfl ?_
    refine q_iload X (q := 196) d_L_law_194 rfl rfl ?_
    refine q_iconst X (v := (nI 3)) (q := 197) d_L_law_196 (by decide +kernel) rfl ?_
    refine q_iadd X (q := 198) d_L_law_197 rfl ?_
    refine q_scr X Z (j := 4 * i + 3) (q := 199) d_L_law_198 (nI_add _ _) (by omega) rfl ?_
    refine q_aload_n X (q := 200) d_L_law_199 rfl rfl ?_
    refine q_callL X Z (n := 5) d_L_law_200 (c_L_read hI htr hC hO hw hs (f (4 * i + 1)) (f (4 * i + 2)) (f (4 * i + 3))) wl439 wl440 wl35 wl655 (by decide +kernel) (by refine ⟨?_, ?_⟩ <;> dsimp only <;> omega) ⟨rfl, rfl⟩ (by decide) rfl rfl (Nat.le_of_ble_eq_true rfl) rfl (q := 203) rfl (fun r200 τ200 e200 => ?_)
    obtain ⟨rfl, h1, h2, hf1⟩ := e200
    refine q_istore X (q := 205) d_L_law_203 (Nat.le_of_ble_eq_true rfl) rfl ?_
    refine q_aload_n X (q := 206) d_L_law_205 rfl rfl ?_
    refine q_aload_n X (q := 207) d_L_law_206 rfl rfl ?_
    refine q_iload X (q := 209) d_L_law_207 rfl rfl ?_
    refine q_iconst X (v := (nI 1)) (q := 210) d_L_law_209 (by decide +kernel) rfl ?_
    refine q_iadd X (q := 211) d_L_law_210 rfl ?_
    refine q_scr X Z (j := 4 * i + 1) (q := 212) d_L_law_211 (nI_add _ _) (by omega) rfl ?_
    refine q_aload_n X (q := 213) d_L_law_212 rfl rfl ?_
    refine q_iload X (q := 215) d_L_law_213 rfl rfl ?_
    refine q_iconst X (v := (nI 2)) (q := 216) d_L_law_215 (by decide +kernel) rfl ?_
    refine q_iadd X (q := 217) d_L_law_216 rfl ?_
    refine q_scr X Z (j := 4 * i + 2) (q := 218) d_L_law_217 (nI_add _ _) (by omega) rfl ?_
    refine q_aload_n X (q := 219) d_L_law_218 rfl rfl ?_
    refine q_iload X (q := 221) d_L_law_219 rfl rfl ?_
    refine q_iconst X (v := (nI 3)) (q := 222) d_L_law_221 (by decide +kernel) rfl ?_
    refine q_iadd X (q := 223) d_L_law_222 rfl ?_
    refine q_scr X Z (j := 4 * i + 3) (q := 224) d_L_law_223 (nI_add _ _) (by omega) rfl ?_
    refine q_callV X (n := 3) (C := jR5) (T := jT5) (N := 18) d_L_law_224 (c_M_read hI hM hw hv (jMs_far hm (fun g hg h60 => hf1 g (by omega) h60)) (f (4 * i + 1)) (f (4 * i + 2)) (f (4 * i + 3))) rfl rfl (hM _ _ (by decide)) wl537 wl538 wl539 wl42 wl540 (by decide +kernel) (by refine ⟨?_, ?_⟩ <;> dsimp only <;> omega) ⟨rfl, rfl⟩ (by decide) rfl rfl (Nat.le_of_ble_eq_true rfl) rfl (q := 227) rfl (fun r224 τ224 e224 => ?_)
    obtain ⟨c1, c2, c3, c4⟩ := e224
    obtain ⟨rfl, hm1⟩ := c3 hc
    have hout : τ224 60 0 0 = nI (hyR h + 1) := by rw [c4 60 (Or.inr rfl)]; exact (h2 hc).1
    refine q_istore X (q := 229) d_L_law_227 (Nat.le_of_ble_eq_true rfl) rfl ?_
    refine q_aload_n X (q := 230) d_L_law_229 rfl rfl ?_
    refine q_callV X (n := 0) (C := jR5) (T := jT5) (N := 18) d_L_law_230 (c_M_thrown hI hM τ224) rfl rfl (hM _ _ (by decide)) wl520 wl521 wl522 wl42 wl523 (by decide +kernel) (by refine ⟨?_, ?_⟩ <;> dsimp only <;> omega) ⟨rfl, rfl⟩ (by decide) rfl rfl (Nat.le_of_ble_eq_true rfl) rfl (q := 233) rfl (fun r230 τ230 e230 => ?_)
    obtain ⟨rfl, rfl⟩ := e230
    refine q_iload X (q := 235) d_L_law_233 rfl rfl ?_
    refine q_icmp_eq X (tgt := 240) (q := 238) d_L_law_235 (by decide) rfl (fun h235 => ?_) (fun h235 => ?_)
    · have _b235 := True.intro
      refine q_iload X (q := 242) d_L_law_240 rfl rfl ?_
      refine q_nif_ne X (tgt := 257) (q := 245) d_L_law_242 (by decide) rfl (by have := jrc_5 h (f (4 * i + 1)) (f (4 * i + 2)) (f (4 * i + 3)); omega) (fun h242 => ?_) (fun h242 => ?_)
      · have _b242 := True.intro
        exact absurd hc h242
      · have _b242 := True.intro
        refine q_aload_n X (q := 246) d_L_law_245 rfl rfl ?_
        refine q_iconst X (v := (nI 0)) (q := 247) d_L_law_246 (by decide +kernel) rfl ?_
        refine q_same X (g := 60) (r := 0) (n := 1) (j := 0) (i := 6) (q := 252) d_L_law_247 d_L_law_248 d_L_law_250 d_L_law_251 rfl (by decide) rfl (by decide) hO hout rfl rfl ?_
        refine q_if_eq X (tgt := 257) (q := 255) d_L_law_252 (by decide) rfl (fun h252 => ?_) (fun h252 => ?_)
        · have _b252 := True.intro
          refine q_goto X (tgt := 612) d_L_law_257 (by decide) ?_
          exact K612 (jaddR h (f (4 * i + 1)).toNatClampNeg (f (4 * i + 2)).toNatClampNeg (jyO (f (4 * i + 3)))) (jev v (f (4 * i + 1)).toNatClampNeg (f (4 * i + 2)).toNatClampNeg (jyO (f (4 * i + 3))) false) τ224 _ _ _ _ (by first | omega | (dsimp only; omega)) (by first | omega | (dsimp only; omega)) (by rw [ca, cb]; exact jHw_addR hw hv ht hx hs1 (by omega) hy) (by rw [ca, cb]; exact jVc_addR hv ht hx (fun w q => (hy w q).1)) (jHs_keep (h2 hc).2 (fun g hg => c4 g (by omega))) hm1
        · have _b252 := True.intro
          exact absurd rfl h252
    · have _b235 := True.intro
      exact absurd c1 h235
  · have hne := hc
    refine q_aload_n X (q := 181) d_L_law_180 rfl rfl ?_
    refine q_aload_n X (q := 182) d_L_law_181 rfl rfl ?_
    refine q_iload X (q := 184) d_L_law_182 rfl rfl ?_
    refine q_iconst X (v := (nI 1)) (q := 185) d_L_law_184 (by decide +kernel) rfl ?_
    refine q_iadd X (q := 186) d_L_law_185 rfl ?_
    refine q_scr X Z (j := 4 * i + 1) (q := 187) d_L_law_186 (nI_add _ _) (by omega) rfl ?_
    refine q_aload_n X (q := 188) d_L_law_187 rfl rfl ?_
    refine q_iload X (q := 190) d_L_law_188 rfl rfl ?_
    refine q_iconst X (v := (nI 2)) (q := 191) d_L_law_190 (by decide +kernel) rfl ?_
    refine q_iadd X (q := 192) d_L_law_191 rfl ?_
    refine q_scr X Z (j := 4 * i + 2) (q := 193) d_L_law_192 (nI_add _ _) (by omega) rfl ?_
    refine q_aload_n X (q := 194) d_L_law_193 rfl rfl ?_
    refine q_iload X (q := 196) d_L_law_194 rfl rfl ?_
    refine q_iconst X (v := (nI 3)) (q := 197) d_L_law_196 (by decide +kernel) rfl ?_
    refine q_iadd X (q := 198) d_L_law_197 rfl ?_
    refine q_scr X Z (j := 4 * i + 3) (q := 199) d_L_law_198 (nI_add _ _) (by omega) rfl ?_
    refine q_aload_n X (q := 200) d_L_law_199 rfl rfl ?_
    refine q_callL X Z (n := 5) d_L_law_200 (c_L_read hI htr hC hO hw hs (f (4 * i + 1)) (f (4 * i + 2)) (f (4 * i + 3))) wl439 wl440 wl35 wl655 (by decide +kernel) (by refine ⟨?_, ?_⟩ <;> dsimp only <;> omega) ⟨rfl, rfl⟩ (by decide) rfl rfl (Nat.le_of_ble_eq_true rfl) rfl (q := 203) rfl (fun r200 τ200 e200 => ?_)
    obtain ⟨rfl, h1, h2, hf1⟩ := e200
    refine q_istore X (q := 205) d_L_law_203 (Nat.le_of_ble_eq_true rfl) rfl ?_
    refine q_aload_n X (q := 206) d_L_law_205 rfl rfl ?_
    refine q_aload_n X (q := 207) d_L_law_206 rfl rfl ?_
    refine q_iload X (q := 209) d_L_law_207 rfl rfl ?_
    refine q_iconst X (v := (nI 1)) (q := 210) d_L_law_209 (by decide +kernel) rfl ?_
    refine q_iadd X (q := 211) d_L_law_210 rfl ?_
    refine q_scr X Z (j := 4 * i + 1) (q := 212) d_L_law_211 (nI_add _ _) (by omega) rfl ?_
    refine q_aload_n X (q := 213) d_L_law_212 rfl rfl ?_
    refine q_iload X (q := 215) d_L_law_213 rfl rfl ?_
    refine q_iconst X (v := (nI 2)) (q := 216) d_L_law_215 (by decide +kernel) rfl ?_
    refine q_iadd X (q := 217) d_L_law_216 rfl ?_
    refine q_scr X Z (j := 4 * i + 2) (q := 218) d_L_law_217 (nI_add _ _) (by omega) rfl ?_
    refine q_aload_n X (q := 219) d_L_law_218 rfl rfl ?_
    refine q_iload X (q := 221) d_L_law_219 rfl rfl ?_
    refine q_iconst X (v := (nI 3)) (q := 222) d_L_law_221 (by decide +kernel) rfl ?_
    refine q_iadd X (q := 223) d_L_law_222 rfl ?_
    refine q_scr X Z (j := 4 * i + 3) (q := 224) d_L_law_223 (nI_add _ _) (by omega) rfl ?_
    refine q_callV X (n := 3) (C := jR5) (T := jT5) (N := 18) d_L_law_224 (c_M_read hI hM hw hv (jMs_far hm (fun g hg h60 => hf1 g (by omega) h60)) (f (4 * i + 1)) (f (4 * i + 2)) (f (4 * i + 3))) rfl rfl (hM _ _ (by decide)) wl537 wl538 wl539 wl42 wl540 (by decide +kernel) (by refine ⟨?_, ?_⟩ <;> dsimp only <;> omega) ⟨rfl, rfl⟩ (by decide) rfl rfl (Nat.le_of_ble_eq_true rfl) rfl (q := 227) rfl (fun r224 τ224 e224 => ?_)
    obtain ⟨c1, c2, c3, c4⟩ := e224
    obtain ⟨rfl, hm1⟩ := c2 hc
    refine q_istore X (q := 229) d_L_law_227 (Nat.le_of_ble_eq_true rfl) rfl ?_
    refine q_aload_n X (q := 230) d_L_law_229 rfl rfl ?_
    refine q_callV X (n := 0) (C := jR5) (T := jT5) (N := 18) d_L_law_230 (c_M_thrown hI hM τ224) rfl rfl (hM _ _ (by decide)) wl520 wl521 wl522 wl42 wl523 (by decide +kernel) (by refine ⟨?_, ?_⟩ <;> dsimp only <;> omega) ⟨rfl, rfl⟩ (by decide) rfl rfl (Nat.le_of_ble_eq_true rfl) rfl (q := 233) rfl (fun r230 τ230 e230 => ?_)
    obtain ⟨rfl, rfl⟩ := e230
    refine q_iload X (q := 235) d_L_law_233 rfl rfl ?_
    refine q_icmp_eq X (tgt := 240) (q := 238) d_L_law_235 (by decide) rfl (fun h235 => ?_) (fun h235 => ?_)
    · have _b235 := True.intro
      refine q_iload X (q := 242) d_L_law_240 rfl rfl ?_
      refine q_nif_ne X (tgt := 257) (q := 245) d_L_law_242 (by decide) rfl (by have := jrc_5 h (f (4 * i + 1)) (f (4 * i + 2)) (f (4 * i + 3)); omega) (fun h242 => ?_) (fun h242 => ?_)
      · have _b242 := True.intro
        refine q_goto X (tgt := 612) d_L_law_257 (by decide) ?_
        have e9 := h1 hc
        subst e9
        exact K612 (h) (v) τ224 _ _ _ _ (by first | omega | (dsimp only; omega)) (by first | omega | (dsimp only; omega)) hw hv (jHs_keep hs (fun g hg => c4 g (by omega))) hm1
      · have _b242 := True.intro
        exact absurd h242 hc
    · have _b235 := True.intro
      exact absurd c1 h235
set_option maxRecDepth 100000 in
set_option maxHeartbeats 40000000 in
theorem jlaw_end {Γ : jxG} {Θ : jxT} {l : Launch} {f : Nat → Int32} {nf : Nat} {Q : State → Prop} (hI : jxI Θ) (htr : l.stackTraces = false) (hC : ∀ g r, r < jrwJ g → Θ.2.2.2 g r) (hM : ∀ g r, r < jrwM g → Θ.2.2.2 g r) (hO : Θ.2.2.2 60 0) (X : jxOk Γ Θ l b_L_law 7 "HistoryJudgeLaw" (some FieldType.boolean) room_1) (Z : jxOkW Γ Θ f nf) {i : Nat} (hi : 4 * i + 4 ≤ nf) (hn31 : nf < 2 ^ 30) (hB : 63 + i + 1 ≤ room_1.cells ∧ 1572 + 6 * i + 6 ≤ room_1.slots) {h : jH} {v : jV} {σ : jxM} (hw : jHw h) (hv : jVc h v) (hs : jHs h σ) (hm : jMs h v σ) (K612 : ∀ (h' : jH) (v' : jV) (τ : jxM) (k n : Nat) (a5 a6 : Option jxV), k ≤ 63 + i + 1 → n ≤ 1572 + 6 * i + 6 → jHw h' → jVc h' v' → jHs h' τ → jMs h' v' τ → jxWq Γ Θ (Q, k, n) 612 [some (.inr (61, 0)), some (.inr (0, 0)), some (.inr (40, 0)), some (.inr (60, 0)), some (.inl (nI (4 * i))), a5, a6] [] τ) : jxWq Γ Θ (Q, 63 + i, 1572 + 6 * i) 260 [some (.inr (61, 0)), some (.inr (0, 0)), some (.inr (40, 0)), some (.inr (60, 0)), some (.inl (nI (4 * i))), none, none] [] σ := by
  have bV := jHw_V hw
  have bR := jHw_R hw
  by_cases hb : (f (4 * i + 2)) = 0
  · by_cases hc : jec h (f (4 * i + 1)) = 0
    · obtain ⟨t, ht, ea, ca, hs1⟩ := jec_0 hc
      refine q_aload_n X (q := 261) d_L_law_260 rfl rfl ?_
      refine q_aload_n X (q := 262) d_L_law_261 rfl rfl ?_
      refine q_iload X (q := 264) d_L_law_262 rfl rfl ?_
      refine q_iconst X (v := (nI 1)) (q := 265) d_L_law_264 (by decide +kernel) rfl ?_
      refine q_iadd X (q := 266) d_L_law_265 rfl ?_
      refine q_scr X Z (j := 4 * i + 1) (q := 267) d_L_law_266 (nI_add _ _) (by omega) rfl ?_
      refine q_aload_n X (q := 268) d_L_law_267 rfl rfl ?_
      refine q_iload X (q := 270) d_L_law_268 rfl rfl ?_
      refine q_iconst X (v := (nI 2)) (q := 271) d_L_law_270 (by decide +kernel) rfl ?_
      refine q_iadd X (q := 272) d_L_law_271 rfl ?_
      refine q_scr X Z (j := 4 * i + 2) (q := 273) d_L_law_272 (nI_add _ _) (by omega) rfl ?_
      refine q_if_eq X (tgt := 280) (q := 276) d_L_law_273 (by decide) rfl (fun h273 => ?_) (fun h273 => ?_)
      · have _b273 := True.intro
        refine q_iconst X (v := (nI 0)) (q := 281) d_L_law_280 (by decide +kernel) rfl ?_
        refine q_callL X Z (n := 3) d_L_law_281 (c_L_end hI htr hC hw hs (f (4 * i + 1)) false) wl467 wl468 wl35 wl656 (by decide +kernel) (by refine ⟨?_, ?_⟩ <;> dsimp only <;> omega) ⟨rfl, rfl⟩ (by decide) rfl rfl (Nat.le_of_ble_eq_true rfl) rfl (q := 284) rfl (fun r281 τ281 e281 => ?_)
        obtain ⟨rfl, h1, h2, h3, hf1⟩ := e281
        refine q_istore X (q := 286) d_L_law_284 (Nat.le_of_ble_eq_true rfl) rfl ?_
        refine q_aload_n X (q := 287) d_L_law_286 rfl rfl ?_
        refine q_aload_n X (q := 288) d_L_law_287 rfl rfl ?_
        refine q_iload X (q := 290) d_L_law_288 rfl rfl ?_
        refine q_iconst X (v := (nI 1)) (q := 291) d_L_law_290 (by decide +kernel) rfl ?_
        refine q_iadd X (q := 292) d_L_law_291 rfl ?_
        refine q_scr X Z (j := 4 * i + 1) (q := 293) d_L_law_292 (nI_add _ _) (by omega) rfl ?_
        refine q_aload_n X (q := 294) d_L_law_293 rfl rfl ?_
        refine q_iload X (q := 296) d_L_law_294 rfl rfl ?_
        refine q_iconst X (v := (nI 2)) (q := 297) d_L_law_296 (by decide +kernel) rfl ?_
        refine q_iadd X (q := 298) d_L_law_297 rfl ?_
        refine q_scr X Z (j := 4 * i + 2) (q := 299) d_L_law_298 (nI_add _ _) (by omega) rfl ?_
        refine q_if_eq X (tgt := 306) (q := 302) d_L_law_299 (by decide) rfl (fun h299 => ?_) (fun h299 => ?_)
        · have _b299 := True.intro
          refine q_iconst X (v := (nI 0)) (q := 307) d_L_law_306 (by decide +kernel) rfl ?_
          refine q_callV X (n := 2) (C := jR5) (T := jT5) (N := 18) d_L_law_307 (c_M_end hI hM hw hv (jMs_far hm (fun g hg h60 => hf1 g (by omega) h60)) (f (4 * i + 1)) false) rfl rfl (hM _ _ (by decide)) wl544 wl545 wl546 wl42 wl547 (by decide +kernel) (by refine ⟨?_, ?_⟩ <;> dsimp only <;> omega) ⟨rfl, rfl⟩ (by decide) rfl rfl (Nat.le_of_ble_eq_true rfl) rfl (q := 310) rfl (fun r307 τ307 e307 => ?_)
          obtain ⟨rfl, c1, c2, c3, c4, c5⟩ := e307
          refine q_aload_n X (q := 311) d_L_law_310 rfl rfl ?_
          refine q_callV X (n := 0) (C := jR5) (T := jT5) (N := 18) d_L_law_311 (c_M_thrown hI hM τ307) rfl rfl (hM _ _ (by decide)) wl520 wl521 wl522 wl42 wl523 (by decide +kernel) (by refine ⟨?_, ?_⟩ <;> dsimp only <;> omega) ⟨rfl, rfl⟩ (by decide) rfl rfl (Nat.le_of_ble_eq_true rfl) rfl (q := 314) rfl (fun r311 τ311 e311 => ?_)
          obtain ⟨rfl, rfl⟩ := e311
          refine q_iload X (q := 316) d_L_law_314 rfl rfl ?_
          refine q_icmp_eq X (tgt := 321) (q := 319) d_L_law_316 (by decide) rfl (fun h316 => ?_) (fun h316 => ?_)
          · have _b316 := True.intro
            refine q_goto X (tgt := 612) d_L_law_321 (by decide) ?_
            exact K612 (jend h (f (4 * i + 1)).toNatClampNeg 3) (v) τ307 _ _ _ _ (by first | omega | (dsimp only; omega)) (by first | omega | (dsimp only; omega)) (by rw [ca]; exact jHw_end hw hs1 (by decide)) (jVc_end hv) (jHs_keep (h3 hc rfl) (fun g hg => c5 g (by omega))) (c4 hc rfl)
          · have _b316 := True.intro
            exact absurd c1 h316
        · have _b299 := True.intro
          exact absurd hb h299
      · have _b273 := True.intro
        exact absurd hb h273
    · have hne := hc
      refine q_aload_n X (q := 261) d_L_law_260 rfl rfl ?_
      refine q_aload_n X (q := 262) d_L_law_261 rfl rfl ?_
      refine q_iload X (q := 264) d_L_law_262 rfl rfl ?_
      refine q_iconst X (v := (nI 1)) (q := 265) d_L_law_264 (by decide +kernel) rfl ?_
      refine q_iadd X (q := 266) d_L_law_265 rfl ?_
      refine q_scr X Z (j := 4 * i + 1) (q := 267) d_L_law_266 (nI_add _ _) (by omega) rfl ?_
      refine q_aload_n X (q := 268) d_L_law_267 rfl rfl ?_
      refine q_iload X (q := 270) d_L_law_268 rfl rfl ?_
      refine q_iconst X (v := (nI 2)) (q := 271) d_L_law_270 (by decide +kernel) rfl ?_
      refine q_iadd X (q := 272) d_L_law_271 rfl ?_
      refine q_scr X Z (j := 4 * i + 2) (q := 273) d_L_law_272 (nI_add _ _) (by omega) rfl ?_
      refine q_if_eq X (tgt := 280) (q := 276) d_L_law_273 (by decide) rfl (fun h273 => ?_) (fun h273 => ?_)
      · have _b273 := True.intro
        refine q_iconst X (v := (nI 0)) (q := 281) d_L_law_280 (by decide +kernel) rfl ?_
        refine q_callL X Z (n := 3) d_L_law_281 (c_L_end hI htr hC hw hs (f (4 * i + 1)) false) wl467 wl468 wl35 wl656 (by decide +kernel) (by refine ⟨?_, ?_⟩ <;> dsimp only <;> omega) ⟨rfl, rfl⟩ (by decide) rfl rfl (Nat.le_of_ble_eq_true rfl) rfl (q := 284) rfl (fun r281 τ281 e281 => ?_)
        obtain ⟨rfl, h1, h2, h3, hf1⟩ := e281
        refine q_istore X (q := 286) d_L_law_284 (Nat.le_of_ble_eq_true rfl) rfl ?_
        refine q_aload_n X (q := 287) d_L_law_286 rfl rfl ?_
        refine q_aload_n X (q := 288) d_L_law_287 rfl rfl ?_
        refine q_iload X (q := 290) d_L_law_288 rfl rfl ?_
        refine q_iconst X (v := (nI 1)) (q := 291) d_L_law_290 (by decide +kernel) rfl ?_
        refine q_iadd X (q := 292) d_L_law_291 rfl ?_
        refine q_scr X Z (j := 4 * i + 1) (q := 293) d_L_law_292 (nI_add _ _) (by omega) rfl ?_
        refine q_aload_n X (q := 294) d_L_law_293 rfl rfl ?_
        refine q_iload X (q := 296) d_L_law_294 rfl rfl ?_
        refine q_iconst X (v := (nI 2)) (q := 297) d_L_law_296 (by decide +kernel) rfl ?_
        refine q_iadd X (q := 298) d_L_law_297 rfl ?_
        refine q_scr X Z (j := 4 * i + 2) (q := 299) d_L_law_298 (nI_add _ _) (by omega) rfl ?_
        refine q_if_eq X (tgt := 306) (q := 302) d_L_law_299 (by decide) rfl (fun h299 => ?_) (fun h299 => ?_)
        · have _b299 := True.intro
          refine q_iconst X (v := (nI 0)) (q := 307) d_L_law_306 (by decide +kernel) rfl ?_
          refine q_callV X (n := 2) (C := jR5) (T := jT5) (N := 18) d_L_law_307 (c_M_end hI hM hw hv (jMs_far hm (fun g hg h60 => hf1 g (by omega) h60)) (f (4 * i + 1)) false) rfl rfl (hM _ _ (by decide)) wl544 wl545 wl546 wl42 wl547 (by decide +kernel) (by refine ⟨?_, ?_⟩ <;> dsimp only <;> omega) ⟨rfl, rfl⟩ (by decide) rfl rfl (Nat.le_of_ble_eq_true rfl) rfl (q := 310) rfl (fun r307 τ307 e307 => ?_)
          obtain ⟨rfl, c1, c2, c3, c4, c5⟩ := e307
          refine q_aload_n X (q := 311) d_L_law_310 rfl rfl ?_
          refine q_callV X (n := 0) (C := jR5) (T := jT5) (N := 18) d_L_law_311 (c_M_thrown hI hM τ307) rfl rfl (hM _ _ (by decide)) wl520 wl521 wl522 wl42 wl523 (by decide +kernel) (by refine ⟨?_, ?_⟩ <;> dsimp only <;> omega) ⟨rfl, rfl⟩ (by decide) rfl rfl (Nat.le_of_ble_eq_true rfl) rfl (q := 314) rfl (fun r311 τ311 e311 => ?_)
          obtain ⟨rfl, rfl⟩ := e311
          refine q_iload X (q := 316) d_L_law_314 rfl rfl ?_
          refine q_icmp_eq X (tgt := 321) (q := 319) d_L_law_316 (by decide) rfl (fun h316 => ?_) (fun h316 => ?_)
          · have _b316 := True.intro
            refine q_goto X (tgt := 612) d_L_law_321 (by decide) ?_
            have e9 := h1 hc
            subst e9
            exact K612 (h) (v) τ307 _ _ _ _ (by first | omega | (dsimp only; omega)) (by first | omega | (dsimp only; omega)) hw hv (jHs_keep hs (fun g hg => c5 g (by omega))) (c2 hc)
          · have _b316 := True.intro
            exact absurd c1 h316
        · have _b299 := True.intro
          exact absurd hb h299
      · have _b273 := True.intro
        exact absurd hb h273
  · by_cases hc : jec h (f (4 * i + 1)) = 0
    · obtain ⟨t, ht, ea, ca, hs1⟩ := jec_0 hc
      refine q_aload_n X (q := 261) d_L_law_260 rfl rfl ?_
      refine q_aload_n X (q := 262) d_L_law_261 rfl rfl ?_
      refine q_iload X (q := 264) d_L_law_262 rfl rfl ?_
      refine q_iconst X (v := (nI 1)) (q := 265) d_L_law_264 (by decide +kernel) rfl ?_
      refine q_iadd X (q := 266) d_L_law_265 rfl ?_
      refine q_scr X Z (j := 4 * i + 1) (q := 267) d_L_law_266 (nI_add _ _) (by omega) rfl ?_
      refine q_aload_n X (q := 268) d_L_law_267 rfl rfl ?_
      refine q_iload X (q := 270) d_L_law_268 rfl rfl ?_
      refine q_iconst X (v := (nI 2)) (q := 271) d_L_law_270 (by decide +kernel) rfl ?_
      refine q_iadd X (q := 272) d_L_law_271 rfl ?_
      refine q_scr X Z (j := 4 * i + 2) (q := 273) d_L_law_272 (nI_add _ _) (by omega) rfl ?_
      refine q_if_eq X (tgt := 280) (q := 276) d_L_law_273 (by decide) rfl (fun h273 => ?_) (fun h273 => ?_)
      · have _b273 := True.intro
        exact absurd h273 hb
      · have _b273 := True.intro
        refine q_iconst X (v := (nI 1)) (q := 277) d_L_law_276 (by decide +kernel) rfl ?_
        refine q_goto X (tgt := 281) d_L_law_277 (by decide) ?_
        refine q_callL X Z (n := 3) d_L_law_281 (c_L_end hI htr hC hw hs (f (4 * i + 1)) true) wl467 wl468 wl35 wl656 (by decide +kernel) (by refine ⟨?_, ?_⟩ <;> dsimp only <;> omega) ⟨rfl, rfl⟩ (by decide) rfl rfl (Nat.le_of_ble_eq_true rfl) rfl (q := 284) rfl (fun r281 τ281 e281 => ?_)
        obtain ⟨rfl, h1, h2, h3, hf1⟩ := e281
        refine q_istore X (q := 286) d_L_law_284 (Nat.le_of_ble_eq_true rfl) rfl ?_
        refine q_aload_n X (q := 287) d_L_law_286 rfl rfl ?_
        refine q_aload_n X (q := 288) d_L_law_287 rfl rfl ?_
        refine q_iload X (q := 290) d_L_law_288 rfl rfl ?_
        refine q_iconst X (v := (nI 1)) (q := 291) d_L_law_290 (by decide +kernel) rfl ?_
        refine q_iadd X (q := 292) d_L_law_291 rfl ?_
        refine q_scr X Z (j := 4 * i + 1) (q := 293) d_L_law_292 (nI_add _ _) (by omega) rfl ?_
        refine q_aload_n X (q := 294) d_L_law_293 rfl rfl ?_
        refine q_iload X (q := 296) d_L_law_294 rfl rfl ?_
        refine q_iconst X (v := (nI 2)) (q := 297) d_L_law_296 (by decide +kernel) rfl ?_
        refine q_iadd X (q := 298) d_L_law_297 rfl ?_
        refine q_scr X Z (j := 4 * i + 2) (q := 299) d_L_law_298 (nI_add _ _) (by omega) rfl ?_
        refine q_if_eq X (tgt := 306) (q := 302) d_L_law_299 (by decide) rfl (fun h299 => ?_) (fun h299 => ?_)
        · have _b299 := True.intro
          exact absurd h299 hb
        · have _b299 := True.intro
          refine q_iconst X (v := (nI 1)) (q := 303) d_L_law_302 (by decide +kernel) rfl ?_
          refine q_goto X (tgt := 307) d_L_law_303 (by decide) ?_
          refine q_callV X (n := 2) (C := jR5) (T := jT5) (N := 18) d_L_law_307 (c_M_end hI hM hw hv (jMs_far hm (fun g hg h60 => hf1 g (by omega) h60)) (f (4 * i + 1)) true) rfl rfl (hM _ _ (by decide)) wl544 wl545 wl546 wl42 wl547 (by decide +kernel) (by refine ⟨?_, ?_⟩ <;> dsimp only <;> omega) ⟨rfl, rfl⟩ (by decide) rfl rfl (Nat.le_of_ble_eq_true rfl) rfl (q := 310) rfl (fun r307 τ307 e307 => ?_)
          obtain ⟨rfl, c1, c2, c3, c4, c5⟩ := e307
          refine q_aload_n X (q := 311) d_L_law_310 rfl rfl ?_
          refine q_callV X (n := 0) (C := jR5) (T := jT5) (N := 18) d_L_law_311 (c_M_thrown hI hM τ307) rfl rfl (hM _ _ (by decide)) wl520 wl521 wl522 wl42 wl523 (by decide +kernel) (by refine ⟨?_, ?_⟩ <;> dsimp only <;> omega) ⟨rfl, rfl⟩ (by decide) rfl rfl (Nat.le_of_ble_eq_true rfl) rfl (q := 314) rfl (fun r311 τ311 e311 => ?_)
          obtain ⟨rfl, rfl⟩ := e311
          refine q_iload X (q := 316) d_L_law_314 rfl rfl ?_
          refine q_icmp_eq X (tgt := 321) (q := 319) d_L_law_316 (by decide) rfl (fun h316 => ?_) (fun h316 => ?_)
          · have _b316 := True.intro
            refine q_goto X (tgt := 612) d_L_law_321 (by decide) ?_
            exact K612 (jcomP h (f (4 * i + 1)).toNatClampNeg 6) (v) τ307 _ _ _ _ (by first | omega | (dsimp only; omega)) (by first | omega | (dsimp only; omega)) (by rw [ca]; exact jHw_com hw ht hs1) (jVc_com hv) (jHs_keep (h2 hc rfl) (fun g hg => c5 g (by omega))) (c3 hc rfl)
          · have _b316 := True.intro
            exact absurd c1 h316
    · have hne := hc
      refine q_aload_n X (q := 261) d_L_law_260 rfl rfl ?_
      refine q_aload_n X (q := 262) d_L_law_261 rfl rfl ?_
      refine q_iload X (q := 264) d_L_law_262 rfl rfl ?_
      refine q_iconst X (v := (nI 1)) (q := 265) d_L_law_264 (by decide +kernel) rfl ?_
      refine q_iadd X (q := 266) d_L_law_265 rfl ?_
      refine q_scr X Z (j := 4 * i + 1) (q := 267) d_L_law_266 (nI_add _ _) (by omega) rfl ?_
      refine q_aload_n X (q := 268) d_L_law_267 rfl rfl ?_
      refine q_iload X (q := 270) d_L_law_268 rfl rfl ?_
      refine q_iconst X (v := (nI 2)) (q := 271) d_L_law_270 (by decide +kernel) rfl ?_
      refine q_iadd X (q := 272) d_L_law_271 rfl ?_
      refine q_scr X Z (j := 4 * i + 2) (q := 273) d_L_law_272 (nI_add _ _) (by omega) rfl ?_
      refine q_if_eq X (tgt := 280) (q := 276) d_L_law_273 (by decide) rfl (fun h273 => ?_) (fun h273 => ?_)
      · have _b273 := True.intro
        exact absurd h273 hb
      · have _b273 := True.intro
        refine q_iconst X (v := (nI 1)) (q := 277) d_L_law_276 (by decide +kernel) rfl ?_
        refine q_goto X (tgt := 281) d_L_law_277 (by decide) ?_
        refine q_callL X Z (n := 3) d_L_law_281 (c_L_end hI htr hC hw hs (f (4 * i + 1)) true) wl467 wl468 wl35 wl656 (by decide +kernel) (by refine ⟨?_, ?_⟩ <;> dsimp only <;> omega) ⟨rfl, rfl⟩ (by decide) rfl rfl (Nat.le_of_ble_eq_true rfl) rfl (q := 284) rfl (fun r281 τ281 e281 => ?_)
        obtain ⟨rfl, h1, h2, h3, hf1⟩ := e281
        refine q_istore X (q := 286) d_L_law_284 (Nat.le_of_ble_eq_true rfl) rfl ?_
        refine q_aload_n X (q := 287) d_L_law_286 rfl rfl ?_
        refine q_aload_n X (q := 288) d_L_law_287 rfl rfl ?_
        refine q_iload X (q := 290) d_L_law_288 rfl rfl ?_
        refine q_iconst X (v := (nI 1)) (q := 291) d_L_law_290 (by decide +kernel) rfl ?_
        refine q_iadd X (q := 292) d_L_law_291 rfl ?_
        refine q_scr X Z (j := 4 * i + 1) (q := 293) d_L_law_292 (nI_add _ _) (by omega) rfl ?_
        refine q_aload_n X (q := 294) d_L_law_293 rfl rfl ?_
        refine q_iload X (q := 296) d_L_law_294 rfl rfl ?_
        refine q_iconst X (v := (nI 2)) (q := 297) d_L_law_296 (by decide +kernel) rfl ?_
        refine q_iadd X (q := 298) d_L_law_297 rfl ?_
        refine q_scr X Z (j := 4 * i + 2) (q := 299) d_L_law_298 (nI_add _ _) (by omega) rfl ?_
        refine q_if_eq X (tgt := 306) (q := 302) d_L_law_299 (by decide) rfl (fun h299 => ?_) (fun h299 => ?_)
        · have _b299 := True.intro
          exact absurd h299 hb
        · have _b299 := True.intro
          refine q_iconst X (v := (nI 1)) (q := 303) d_L_law_302 (by decide +kernel) rfl ?_
          refine q_goto X (tgt := 307) d_L_law_303 (by decide) ?_
          refine q_callV X (n := 2) (C := jR5) (T := jT5) (N := 18) d_L_law_307 (c_M_end hI hM hw hv (jMs_far hm (fun g hg h60 => hf1 g (by omega) h60)) (f (4 * i + 1)) true) rfl rfl (hM _ _ (by decide)) wl544 wl545 wl546 wl42 wl547 (by decide +kernel) (by refine ⟨?_, ?_⟩ <;> dsimp only <;> omega) ⟨rfl, rfl⟩ (by decide) rfl rfl (Nat.le_of_ble_eq_true rfl) rfl (q := 310) rfl (fun r307 τ307 e307 => ?_)
          obtain ⟨rfl, c1, c2, c3, c4, c5⟩ := e307
          refine q_aload_n X (q := 311) d_L_law_310 rfl rfl ?_
          refine q_callV X (n := 0) (C := jR5) (T := jT5) (N := 18) d_L_law_311 (c_M_thrown hI hM τ307) rfl rfl (hM _ _ (by decide)) wl520 wl521 wl522 wl42 wl523 (by decide +kernel) (by refine ⟨?_, ?_⟩ <;> dsimp only <;> omega) ⟨rfl, rfl⟩ (by decide) rfl rfl (Nat.le_of_ble_eq_true rfl) rfl (q := 314) rfl (fun r311 τ311 e311 => ?_)
          obtain ⟨rfl, rfl⟩ := e311
          refine q_iload X (q := 316) d_L_law_314 rfl rfl ?_
          refine q_icmp_eq X (tgt := 321) (q := 319) d_L_law_316 (by decide) rfl (fun h316 => ?_) (fun h316 => ?_)
          · have _b316 := True.intro
            refine q_goto X (tgt := 612) d_L_law_321 (by decide) ?_
            have e9 := h1 hc
            subst e9
            exact K612 (h) (v) τ307 _ _ _ _ (by first | omega | (dsimp only; omega)) (by first | omega | (dsimp only; omega)) hw hv (jHs_keep hs (fun g hg => c5 g (by omega))) (c2 hc)
          · have _b316 := True.intro
            exact absurd c1 h316
set_option maxRecDepth 100000 in
set_option maxHeartbeats 40000000 in
theorem jlaw_loop {Γ : jxG} {Θ : jxT} {l : Launch} {f : Nat → Int32} {nf : Nat} {Q : State → Prop} (hI : jxI Θ) (htr : l.stackTraces = false) (hC : ∀ g r, r < jrwJ g → Θ.2.2.2 g r) (hM : ∀ g r, r < jrwM g → Θ.2.2.2 g r) (hO : Θ.2.2.2 60 0) (X : jxOk Γ Θ l b_L_law 7 "HistoryJudgeLaw" (some FieldType.boolean) room_1) (Z : jxOkW Γ Θ f nf) (hn31 : nf < 2 ^ 30) (hcell : 63 + nf / 4 + 1 ≤ room_1.cells) (hslot : 1572 + 6 * (nf / 4) + 6 ≤ room_1.slots) (hend : ∀ k n L σ, k ≤ room_1.cells → n ≤ room_1.slots → jxWq Γ Θ (Q, k, n) 618 L [] σ) : ∀ (N i : Nat) (h : jH) (v : jV) (σ : jxM), nf / 4 + 1 - i < N → 4 * i ≤ nf → jHw h → jVc h v → jHs h σ → jMs h v σ → jxWq Γ Θ (Q, 63 + i, 1572 + 6 * i) 23 [some (.inr (61, 0)), some (.inr (0, 0)), some (.inr (40, 0)), some (.inr (60, 0)), some (.inl (nI (4 * i))), none, none] [] σ := by
  intro N
  induction N with
  | zero => intro i h v σ hn; exact absurd hn (Nat.not_lt_zero _)
  | succ N ih =>
    intro i h v σ hn hi hw hv hs hm
    have hB : 63 + i + 1 ≤ room_1.cells ∧ 1572 + 6 * i + 6 ≤ room_1.slots := ⟨by omega, by omega⟩
    refine q_iload X (q := 25) d_L_law_23 rfl rfl ?_
    refine q_aload_n X (q := 26) d_L_law_25 rfl rfl ?_
    refine q_slen X Z (q := 27) d_L_law_26 rfl ?_
    refine q_iconst X (v := (nI 4)) (q := 28) d_L_law_27 (by decide +kernel) rfl ?_
    refine q_isub X (q := 29) d_L_law_28 rfl ?_
    refine q_icmp_gt X (tgt := 618) (q := 32) d_L_law_29 (by decide) rfl (fun h29 => ?_) (fun h29 => ?_)
    · have _b29 := True.intro
      exact hend _ _ _ _ (by omega) (by omega)
    · have _b29 := True.intro
      have h4 : 4 * i + 4 ≤ nf := by
        rw [Int32.lt_iff_toInt_lt, nI_toInt (by omega), pk_sub_toInt (by omega) (by omega)] at h29
        omega
      refine q_aload_n X (q := 33) d_L_law_32 rfl rfl ?_
      refine q_iload X (q := 35) d_L_law_33 rfl rfl ?_
      refine q_scr X Z (j := 4 * i) (q := 36) d_L_law_35 rfl (by omega) rfl ?_
      refine q_bipush X (v := (nI 15)) (q := 38) d_L_law_36 (by decide +kernel) rfl ?_
      refine q_iand X (q := 39) d_L_law_38 rfl ?_
      
      have K612 : ∀ (h' : jH) (v' : jV) (τ : jxM) (k n : Nat) (a5 a6 : Option jxV), k ≤ 63 + i + 1 → n ≤ 1572 + 6 * i + 6 → jHw h' → jVc h' v' → jHs h' τ → jMs h' v' τ → jxWq Γ Θ (Q, k, n) 612 [some (.inr (61, 0)), some (.inr (0, 0)), some (.inr (40, 0)), some (.inr (60, 0)), some (.inl (nI (4 * i))), a5, a6] [] τ := by
        intro h' v' τ k n a5 a6 hk hn' hw' hv' hs' hm'
        refine q_iinc X (v := nI (4 * (i + 1))) (q := 615) d_L_law_612 rfl (show nI (4 * i) + Int32.ofInt 4 = _ from nI_add (4 * i) 4) rfl ?_
        refine q_goto X (tgt := 23) d_L_law_615 (by decide) ?_
        refine jxWq.to (L' := [some (.inr (61, 0)), some (.inr (0, 0)), some (.inr (40, 0)), some (.inr (60, 0)), some (.inl (nI (4 * (i + 1)))), none, none]) (by simp [jfg]) ?_
        refine q_wide (Φ := (Q, 0, 0)) (k' := 63 + (i + 1)) (n' := 1572 + 6 * (i + 1)) (by omega) (by omega) ?_
        exact ih (i + 1) h' v' τ (by omega) (by omega) hw' hv' hs' hm'
      obtain ⟨c, hc16, ec⟩ := jand15 (f (4 * i))
      refine jxWq.cast rfl (show _ = [.inl (nI c)] by rw [← ec]) rfl ?_
      rcases (by omega : c = 0 ∨ c = 1 ∨ c = 2 ∨ c = 3 ∨ c = 4 ∨ c = 5 ∨ c = 6 ∨ c = 7 ∨ c = 8 ∨ c = 9 ∨ c = 10 ∨ c = 11 ∨ c = 12 ∨ c = 13 ∨ c = 14 ∨ c = 15) with rfl | rfl | rfl | rfl | rfl | rfl | rfl | rfl | rfl | rfl | rfl | rfl | rfl | rfl | rfl | rfl
      · refine q_table X (off := 73) (tgt := 112) d_L_law_39 (by decide +kernel) (by decide +kernel) (by decide +kernel) (by decide) ?_
        exact jlaw_write hI htr hC hM hO X Z h4 hn31 hB hw hv hs hm K612
      · refine q_table X (off := 141) (tgt := 180) d_L_law_39 (by decide +kernel) (by decide +kernel) (by decide +kernel) (by decide) ?_
        exact jlaw_read hI htr hC hM hO X Z h4 hn31 hB hw hv hs hm K612
      · refine q_table X (off := 221) (tgt := 260) d_L_law_39 (by decide +kernel) (by decide +kernel) (by decide +kernel) (by decide) ?_
        exact jlaw_end hI htr hC hM hO X Z h4 hn31 hB hw hv hs hm K612
      · refine q_table X (off := 285) (tgt := 324) d_L_law_39 (by decide +kernel) (by decide +kernel) (by decide +kernel) (by decide) ?_
        exact jlaw_state hI htr hC hM hO X Z h4 hn31 hB hw hv hs hm K612
      · refine q_table X (off := 310) (tgt := 349) d_L_law_39 (by decide +kernel) (by decide +kernel) (by decide +kernel) (by decide) ?_
        exact jlaw_version hI htr hC hM hO X Z h4 hn31 hB hw hv hs hm K612
      · refine q_table X (off := 347) (tgt := 386) d_L_law_39 (by decide +kernel) (by decide +kernel) (by decide +kernel) (by decide) ?_
        exact jlaw_exchange hI htr hC hM hO X Z h4 hn31 hB hw hv hs hm K612
      · refine q_table X (off := 384) (tgt := 423) d_L_law_39 (by decide +kernel) (by decide +kernel) (by decide +kernel) (by decide) ?_
        exact jlaw_edges hI htr hC hM hO X Z h4 hn31 hB hw hv hs hm K612
      · refine q_table X (off := 421) (tgt := 460) d_L_law_39 (by decide +kernel) (by decide +kernel) (by decide +kernel) (by decide) ?_
        exact jlaw_flaws hI htr hC hM hO X Z h4 hn31 hB hw hv hs hm K612
      · refine q_table X (off := 434) (tgt := 473) d_L_law_39 (by decide +kernel) (by decide +kernel) (by decide +kernel) (by decide) ?_
        exact jlaw_level hI htr hC hM hO X Z h4 hn31 hB hw hv hs hm K612
      · refine q_table X (off := 447) (tgt := 486) d_L_law_39 (by decide +kernel) (by decide +kernel) (by decide +kernel) (by decide) ?_
        exact jlaw_cycle hI htr hC hM hO X Z h4 hn31 hB hw hv hs hm K612
      · refine q_table X (off := 472) (tgt := 511) d_L_law_39 (by decide +kernel) (by decide +kernel) (by decide +kernel) (by decide) ?_
        exact jlaw_step hI htr hC hM hO X Z h4 hn31 hB hw hv hs hm K612
      · refine q_table X (off := 509) (tgt := 548) d_L_law_39 (by decide +kernel) (by decide +kernel) (by decide +kernel) (by decide) ?_
        exact jlaw_serial hI htr hC hM hO X Z h4 hn31 hB hw hv hs hm K612
      · refine q_table X (off := 522) (tgt := 561) d_L_law_39 (by decide +kernel) (by decide +kernel) (by decide +kernel) (by decide) ?_
        exact jlaw_place hI htr hC hM hO X Z h4 hn31 hB hw hv hs hm K612
      · refine q_table X (off := 547) (tgt := 586) d_L_law_39 (by decide +kernel) (by decide +kernel) (by decide +kernel) (by decide) ?_
        exact jlaw_beginnings hI htr hC hM hO X Z h4 hn31 hB hw hv hs hm K612
      · refine q_table X (off := 560) (tgt := 599) d_L_law_39 (by decide +kernel) (by decide +kernel) (by decide +kernel) (by decide) ?_
        exact jlaw_clear hI htr hC hM hO X Z h4 hn31 hB hw hv hs hm K612
      · refine q_tableOut X (tgt := 612) d_L_law_39 (by decide +kernel) (by decide) ?_
        exact K612 h v σ _ _ _ _ (by first | omega | (dsimp only; omega)) (by first | omega | (dsimp only; omega)) hw hv hs hm
