/-! THE CLAIM OUT OF ONE WALK OF THE LAW'S BODY. Your part is whole_start (and what it stands on); all else here is the same for every law, but numbers. -/
def R_law : String := "HistoryJudgeLaw"
def lw_P (b : Addr) (xs : List Int32) (args : Array Value) (s : State) : Prop := args = #[.ref b] ∧ s.IntsAt b xs ∧ xs.length ≤ 2048 ∧ (Jvm.Cond.and given_1 narrow_1).before args s = true
def lw_Q (_ : Array Value) (s : State) (o : Outcome) (t : State) : Prop := o = .returned (some (.int 1)) ∧ Framed s o t [] 601024 7293034
def lw_Z (below : List Frame) (a : Array Value) (s : State) : State → Prop := fun t => ∃ o, t.status = .running ∧ Ended t below o ∧ lw_Q a s o t
/-- the law's own end, with 1 on the stack, nothing written that was there before, its room as the claim has it -/
theorem lw_ret {p : Program} {l : Launch} {e : Env} {s : State} {m : MethodId} {below : List Frame} {meth : Method} {c : Code} {b : Nat} (hx : p.tables.exec = Jvm.exec) (hb : c.code = code) (hr : meth.sig.returnType = ret) (hlocks : meth.locks = false) {pc : Nat} {H : Heap} {ls : Array Slot} (hdg : decode code pc = .ok (.ireturn, 1)) : W p l e room_1 s m #[Value.ref b] below meth c H [] 601024 7293034 (lw_Z below #[Value.ref b] s) (F0 m pc ls [.int 1]) := by
  intro T hT X
  obtain ⟨fs, hret, hrun, hended, hW, hframe⟩ := X.leave (v := some (.int 1)) (hlocks := hlocks) (fun h => by rw [hr] at h; cases h)
  have hmeth' : T.vm.method? m = some meth := X.method'
  refine ⟨T.setFrames fs, ?_, .returned (some (.int 1)), hrun, hended, rfl, ⟨_, rfl⟩, hW, hframe⟩
  jvm_step X.here [X.here.top, hx, hb, hdg, hmeth', hr, ret, narrow_b1]
  (try refine ⟨rfl, ?_⟩); (try refine ⟨rfl, ?_⟩)
  first | (intro acts; rw [hret _ acts rfl rfl rfl]) | rw [hret _ _ rfl rfl rfl]
  exact Steps.refl _
/-- what holds at the law's entry: the machine, the code, the tables' words (any of lw_tbl by 'hts w (by decide +kernel)'), the script of L ints xs at the cell b, what the Statement gives of the start (any of its parts by flat_of_before) -/
def lw_At (p : Program) (s : State) (m : MethodId) (meth : Method) (c : Code) (b L : Nat) (xs : Nat → Int32) : Prop :=
  p.tables.exec = Jvm.exec ∧ c.code = code ∧ meth.sig.returnType = ret ∧ c.maxLocals = 7 ∧ s.vm.findClass R_law = some m.cls ∧ (∀ w ∈ lw_tbl, w.before #[Value.ref b] s = true) ∧ va_X b L xs s s.heap ∧ b < s.heap.size ∧ meth.locks = false ∧ (Jvm.Cond.and given_1 narrow_1).before #[Value.ref b] s = true
set_option maxRecDepth 100000 in
set_option maxHeartbeats 8000000 in
theorem whole_start {p : Program} {e : Env} {s : State} {m : MethodId} {below : List Frame} {meth : Method} {c : Code} (l : Launch) (htr : l.stackTraces = false) {b L : Nat} {xs : Nat → Int32} (hL : L ≤ 2048) (C0 : lw_At p s m meth c b L xs) : W p l e room_1 s m #[Value.ref b] below meth c s.heap [] 0 0 (lw_Z below #[Value.ref b] s) (entryFrame m ([Value.ref b] : List Value).toArray 7) := by
  obtain ⟨hx, hb, hret, hml, hown, hts, hX, hbl, hlk, hgv⟩ := C0
  have htw : ∀ w ∈ jW, w.before #[Value.ref b] s = true := fun w hw => hts w (jW_tbl w hw)
  have hfl := flat_of_before _ hgv
  -- the classes
  obtain ⟨c0, i0, k0⟩ := u_known (ws := jW) htw ju0 (htw _ wl134)
  obtain ⟨c1, i1, k1⟩ := u_known (ws := jW) htw ju1 (htw _ wl117)
  obtain ⟨c2, i2, k2⟩ := u_known (ws := jW) htw ju2 (htw _ wl60)
  obtain ⟨c3, i3, k3⟩ := u_known (ws := jW) htw ju3 (htw _ wl150)
  obtain ⟨c4, i4, k4⟩ := u_known (ws := jW) htw ju4 (htw _ wl52)
  obtain ⟨c5, i5, k5⟩ := u_known (ws := jW) htw ju5 (htw _ wl478)
  -- the array classes
  have hAO : (Cond.arrayOver (.array .int)).before #[Value.ref b] s = true := hts _ jAO_tbl
  obtain ⟨a0, ka0, p0, f0, g0, n0⟩ := Cond.arrayClass_spec (htw _ wl115)
  obtain ⟨a1, ka1, p1, f1, g1, n1⟩ := Cond.arrayClass_spec (htw _ wl519)
  obtain ⟨p2, a2, ka2, -, g2, n2, f2⟩ := Cond.arrayOver_specA hAO
  obtain ⟨a3, ka3, p3, f3, g3, n3⟩ := Cond.arrayClass_spec (htw _ wl653)
  obtain ⟨D, hD⟩ : ∃ D : va_G, D = ((fun k => match k with | 0 => c0 | 1 => c1 | 2 => c2 | 3 => c3 | 4 => c4 | _ => c5), (fun k => match k with | 0 => i0 | 1 => i1 | 2 => i2 | 3 => i3 | 4 => i4 | _ => i5)) := ⟨_, rfl⟩
  obtain ⟨cA, hcA⟩ : ∃ cA : Nat → ClassId, cA = (fun k => match k with | 0 => a0 | 1 => a1 | 2 => a2 | _ => a3) := ⟨_, rfl⟩
  have hK : va_K D jxCl (jxtys cA) s := by
    subst hD; subst hcA
    refine ⟨fun k q hq => ?_, fun k q hq => ?_⟩
    · rcases k with _ | _ | _ | _ | _ | _ | k
      · cases hq; exact k0
      · cases hq; exact k1
      · cases hq; exact k2
      · cases hq; exact k3
      · cases hq; exact k4
      · cases hq; exact k5
      · cases hq
    · rcases k with _ | _ | _ | _ | k
      · cases hq; exact ⟨fun n z => ⟨fun k h => (by cases h), ka0, g0, p0, n0⟩, f0⟩
      · cases hq; exact ⟨fun n z => ⟨fun k h => (by cases h), ka1, g1, p1, n1⟩, f1⟩
      · cases hq; exact ⟨fun n z => ⟨fun k h => (by cases h), ka2, g2, p2, n2⟩, f2⟩
      · cases hq; exact ⟨fun n z => ⟨fun k h => (by cases h), ka3, g3, p3, n3⟩, f3⟩
      · cases hq
  clear hD hcA
  obtain ⟨Θ, hΘ⟩ : ∃ Θ : jxT, Θ = (D, cA, adW s.heap.size b, jpW) := ⟨_, rfl⟩
  have had : ∀ i q, jtW[i]? = some q → Θ.2.2.1 q.1 q.2 = s.heap.size + i := by subst hΘ; exact adW_at _ _
  have hS0 : jxS Θ s := by subst hΘ; exact ⟨hK, fun w hw => va_Nw.of (jxnst_face w hw) (hts w (jxnst_tbl w hw))⟩
  have hpr : ∀ g r, Θ.2.2.2 g r ↔ jpW g r := by subst hΘ; exact fun _ _ => Iff.rfl
  have h61 : Θ.2.2.1 61 0 = b := by subst hΘ; show adW s.heap.size b 61 0 = b; unfold adW; exact if_pos rfl
  clear hK
  have hge : ∀ g r, Θ.2.2.2 g r → s.heap.size ≤ Θ.2.2.1 g r := fun g r h => by
    obtain ⟨i, hi⟩ := List.getElem?_of_mem (jpW_cov ((hpr g r).mp h))
    have z : Θ.2.2.1 g r = s.heap.size + i := had i _ hi
    rw [z]; exact Nat.le_add_right _ _
  have hI : jxI Θ := fun g r g' r' h h' e => by
    obtain ⟨i, hi⟩ := List.getElem?_of_mem (jpW_cov ((hpr g r).mp h))
    obtain ⟨j, hj⟩ := List.getElem?_of_mem (jpW_cov ((hpr g' r').mp h'))
    have z : Θ.2.2.1 g r = s.heap.size + i := had i _ hi
    have z' : Θ.2.2.1 g' r' = s.heap.size + j := had j _ hj
    have : i = j := by omega
    subst this
    rw [hi] at hj
    have q := Option.some.inj hj
    exact ⟨congrArg Prod.fst q, congrArg Prod.snd q⟩
  have e0 : Θ.2.2.1 0 0 = s.heap.size := had 0 (0, 0) rfl
  have e40 : Θ.2.2.1 40 0 = s.heap.size + 48 := had 48 (40, 0) (by decide +kernel)
  have e60 : Θ.2.2.1 60 0 = s.heap.size + 62 := had 62 (60, 0) (by decide +kernel)
  have hadJ : ∀ i q, jtJ[i]? = some q → Θ.2.2.1 q.1 q.2 = s.heap.size + 1 + i := fun i q h => by
    have hi : i < 47 := (List.getElem?_eq_some_iff.mp h).1
    rw [had (1 + i) q (by rw [(by decide +kernel : ∀ i, i < 47 → jtW[1 + i]? = jtJ[i]?) i hi]; exact h)]
    omega
  have hadM : ∀ i q, jtM[i]? = some q → Θ.2.2.1 q.1 q.2 = s.heap.size + 49 + i := fun i q h => by
    have hi : i < 13 := (List.getElem?_eq_some_iff.mp h).1
    rw [had (49 + i) q (by rw [(by decide +kernel : ∀ i, i < 13 → jtW[49 + i]? = jtM[i]?) i hi]; exact h)]
    omega
  have hO : jxAO s := hAO
  -- exceptions
  have hZ : jxZ s := by
    refine ⟨fun w hw => va_Nw.of (jWx_face w hw).1 (hts w (jWx_tbl w hw)), ⟨hts _ jxl_tbl.1, hts _ jxl_tbl.2, hfl jxr1 (by decide +kernel), hfl jxr2 (by decide +kernel)⟩, fun q hq => ?_⟩
    have hno : (Cond.not (.castable q.1 q.2)).before #[Value.ref b] s = true := hfl _ ((by decide +kernel : ∀ q ∈ jxprs, Cond.not (.castable q.1 q.2) ∈ flatC (Jvm.Cond.and given_1 narrow_1)) q hq)
    have hv := Cond.holds_not_iff.mp hno
    simp only [Cond.value] at hv
    cases ha : s.vm.findClass q.1 with
    | none => simp [ha] at hv
    | some x =>
      cases hb' : s.vm.findClass q.2 with
      | none => simp [ha, hb'] at hv
      | some y =>
        simp [ha, hb'] at hv
        exact ⟨x, y, rfl, rfl, hv⟩
  obtain ⟨Γ, hΓ⟩ : ∃ Γ : jxG, Γ = (p, l, e, room_1, s, m, #[Value.ref b], below, meth, c, fun q => s.heap.size ≤ q) := ⟨_, rfl⟩
  have X : jxOk Γ Θ l b_L_law 7 "HistoryJudgeLaw" (some FieldType.boolean) room_1 := by subst hΓ; exact ⟨hx, hb, hml, hown, htw, hret, hlk, hS0, hI, hge, fun q h => h, rfl, rfl⟩
  have hnst : ∀ (q : Nat) (cell : Cell), s.heap[q]? = some cell → cell.vm.isStatics = true → ¬ s.heap.size ≤ q := fun q cell h1 _ h3 => absurd (Array.getElem?_eq_some_iff.mp h1).1 (Nat.not_lt.mpr h3)
  have Z : jxOkW Γ Θ xs L := by
    subst hΓ
    obtain ⟨scr, q1, q2, q3, q4, q5⟩ := hX
    exact ⟨hZ, hnst, by omega, by rw [h61]; exact hbl, by rw [h61]; exact Nat.not_le.mpr hbl, scr, by rw [h61]; exact q1, q2, q3, q4, q5⟩
  have hC : ∀ g r, r < jrwJ g → Θ.2.2.2 g r := fun g r h => (hpr g r).mpr (Or.inl h)
  have hM : ∀ g r, r < jrwM g → Θ.2.2.2 g r := fun g r h => (hpr g r).mpr (Or.inr (Or.inl h))
  have hO6 : Θ.2.2.2 60 0 := (hpr 60 0).mpr (Or.inr (Or.inr ⟨rfl, rfl⟩))
  -- the end
  have hend : ∀ k n L σ, k ≤ room_1.cells → n ≤ room_1.slots → jxWq Γ Θ (lw_Z below #[Value.ref b] s, k, n) 618 L [] σ := by
    subst hΓ
    intro k n L σ hk hn H locs ls hP hS hl
    refine lv_iconst hx hb (v := 1) d_L_law_618 (by decide +kernel) ?_
    refine va_forget hS.2.2 ?_
    refine W.widen (k := 601024) (n := 7293034) hk hn ?_
    exact lw_ret hx hb hret hlk d_L_law_619
  -- the start
  rw [lg_entry_eq]
  have hl0 := jxL.entry Θ.2.2.1 [.inr (61, 0)] (n := 7) (by decide)
  have eb : [Value.ref b] = ([.inr (61, 0)] : List jxV).map (jxe Θ.2.2.1) := by show [Value.ref b] = [Value.ref (Θ.2.2.1 61 0)]; rw [h61]
  rw [eb]
  generalize ((lg_sl (([.inr (61, 0)] : List jxV).map (jxe Θ.2.2.1)) ++ List.replicate (7 - (lg_sl (([.inr (61, 0)] : List jxV).map (jxe Θ.2.2.1))).length) Slot.unset).toArray) = ls0 at hl0 ⊢
  rw [← eb]
  have mJ := c_J_init (l := l) (Θ := Θ) (sz := s.heap.size + 1) (by rw [e0]; exact Nat.lt_succ_self _) hadJ
  rw [e0] at mJ
  refine jxmk (Θ := Θ) (own := "HistoryJudgeLaw") (nL := 7) (C := jR4) (T := jT4) (N := 4) (n := 47) (ns := 871) jt4 hx hb hml hl0.1 hown htw hS0 hO ju4 rfl jt4_ok (by decide +kernel) wl51 wl52 wl36 (Or.inl wl53) wl54 wl55 (by decide +kernel) d_L_law_0 d_L_law_3 d_L_law_4 ⟨rfl, rfl⟩ (by decide) (by decide) (by decide) mJ (fun H1 L1 σJ hK1 hP1 hz1 hk1 hL1 => ?_)
  refine W.eq (g2 := F0 m 7 ls0 [.ref (Θ.2.2.1 0 0)]) (by rw [e0]) ?_
  refine lv_astore_n hx hb d_L_law_7 rfl hl0.has (by decide) rfl (fun ls1 h1 => ?_)
  have hl1 : jxL Θ.2.2.1 ls1 [some (.inr (61, 0)), some (.inr (0, 0)), none, none, none, none, none] := jxL.put (v := .inr (0, 0)) h1
  have eH1 : Θ.2.2.1 40 0 = H1.size := by rw [e40, hz1]
  have mM := c_M_init (l := l) (Θ := Θ) (sz := H1.size + 1) (by rw [eH1]; exact Nat.lt_succ_self _) (fun i q h => by rw [hadM i q h, hz1])
  rw [eH1] at mM
  refine jxmk (Θ := Θ) (own := "HistoryJudgeLaw") (nL := 7) (C := jR5) (T := jT5) (N := 18) (n := 13) (ns := 678) jt5 hx hb hml hl1.1 hown htw hS0 hO ju5 rfl jt5_ok (by decide +kernel) wl477 wl478 wl42 (Or.inl wl479) wl480 wl481 (by decide +kernel) d_L_law_8 d_L_law_11 d_L_law_12 ⟨rfl, rfl⟩ (by decide) (by decide) (by decide) mM (fun H2 L2 σM hK2 hP2 hz2 hk2 hL2 => ?_)
  refine W.eq (g2 := F0 m 15 ls1 [.ref (Θ.2.2.1 40 0)]) (by rw [eH1]) ?_
  refine lv_astore_n hx hb d_L_law_15 rfl hl1.has (by decide) rfl (fun ls2 h2 => ?_)
  have hl2 : jxL Θ.2.2.1 ls2 [some (.inr (61, 0)), some (.inr (0, 0)), some (.inr (40, 0)), none, none, none, none] := jxL.put (v := .inr (40, 0)) h2
  refine lv_iconst hx hb (v := nI 1) d_L_law_16 (by decide +kernel) ?_
  have eH2 : Θ.2.2.1 60 0 = H2.size := by rw [e60, hz2, hz1]
  refine va_newaK (atype := .long) hx hb (htw _ wl653) rfl d_L_law_17 rfl (by decide +kernel) (N := 1) (by decide +kernel) (by decide) (by decide) (by decide) (h := H2.size) rfl fun H3 c9 e3 z3 o3 hA3 hN3 => ?_
  have hc9 : c9 = Θ.2.1 3 := Option.some.inj (hN3.symm.trans (hS0.1.2 3 _ (rfl : (jxtys Θ.2.1)[3]? = some (Θ.2.1 3, .long))).2)
  subst hc9
  refine W.eq (g2 := F0 m 19 ls2 [.ref (Θ.2.2.1 60 0)]) (by rw [eH2]) ?_
  refine lv_astore_n hx hb d_L_law_19 rfl hl2.has (by decide) rfl (fun ls3 h3 => ?_)
  have hl3 : jxL Θ.2.2.1 ls3 [some (.inr (61, 0)), some (.inr (0, 0)), some (.inr (40, 0)), some (.inr (60, 0)), none, none, none] := jxL.put (v := .inr (60, 0)) h3
  subst hK2
  obtain ⟨σ, hσ⟩ : ∃ σ : jxM, σ = fun g => if 0 < jrwJ g then σJ g else fun _ _ => 0 := ⟨_, rfl⟩
  have hsg : ∀ g, 0 < jrwJ g → σ g = σJ g := fun g hg => by rw [hσ]; exact if_pos hg
  have hs0 : ∀ g, ¬ 0 < jrwJ g → σ g = fun _ _ => 0 := fun g hg => by rw [hσ]; exact if_neg hg
  have hP3 : jxP Θ σ H3 := fun g r h => by
    rcases (hpr g r).mp h with h | h | ⟨rfl, rfl⟩
    · have hg : 0 < jrwJ g := Nat.lt_of_le_of_lt (Nat.zero_le _) h
      have q := hP1 g r h
      rw [hsg g hg]
      have lt := q.lt
      exact q.kept ((o3 _ (by have := lt; omega)).trans (hk2 _ lt))
    · have hg : 0 < jrwM g := Nat.lt_of_le_of_lt (Nat.zero_le _) h
      have q := hP2 g r h
      rw [hs0 g (jMJ hg)]
      exact q.kept (o3 _ q.lt)
    · rw [hs0 60 (by decide)]
      show H3[Θ.2.2.1 60 0]? = some (arrV (Θ.2.1 3) 1 (fun _ => .long (0 : Int32).toInt64))
      rw [eH2]
      exact e3
  have hkeep : ∀ q : Nat, q < s.heap.size → H3[q]? = s.heap[q]? := fun q hq => by rw [o3 q (by omega), hk2 q (by omega), hk1 q hq]
  have hS3 : va_S (fun q => s.heap.size ≤ q) s.heap H3 (([] ++ L1) ++ L2) := ⟨by omega, fun q h1 _ => hkeep q h1, fun q hq => by
    rcases List.mem_append.mp hq with h | h
    · exact hL1 q h
    · exact Nat.le_trans (by omega) (hL2 q h)⟩
  have hHs : jHs jh0 σ := jHs_rw (fun g hg => hsg g (by
    have : ∀ g, g < 14 → 0 < jrwH g → 0 < jrwJ g := by decide
    by_cases h : g < 14
    · exact this g h hg
    · exfalso
      unfold jrwH at hg
      split at hg <;> omega)) hK1
  have hMs : jMs jh0 jv0 σ := jMs_0 (by rw [hs0 40 (by decide)]; exact nI_0.symm) (by rw [hs0 40 (by decide)]; exact nI_0.symm) (by rw [hs0 40 (by decide)]; exact nI_0.symm) (fun t _ => by rw [hs0 41 (by decide)]; exact nI_0.symm) (fun x _ => by rw [hs0 48 (by decide)]; exact nI_0.symm)
  have loop := jlaw_loop (f := xs) (nf := L) (Q := lw_Z below #[Value.ref b] s) hI htr hC hM hO6 X Z (by omega) (by show 63 + L / 4 + 1 ≤ 601024; omega) (by show 1572 + 6 * (L / 4) + 6 ≤ 7293034; omega) hend (L / 4 + 2) 0 jh0 jv0 σ (by omega) (by omega) jHw_0 jVc_0 hHs hMs
  have walk : jxWq Γ Θ (lw_Z below #[Value.ref b] s, 63, 1572) 20 [some (.inr (61, 0)), some (.inr (0, 0)), some (.inr (40, 0)), some (.inr (60, 0)), none, none, none] [] σ := by
    refine q_iconst X (v := nI 0) (q := 21) d_L_law_20 (by decide +kernel) rfl ?_
    refine q_istore X (q := 23) d_L_law_21 (Nat.le_of_ble_eq_true rfl) rfl ?_
    exact loop
  subst hΓ
  exact walk H3 _ ls3 hP3 hS3 hl3
set_option maxHeartbeats 4000000 in
theorem lw_walk (l : Launch) (htr : l.stackTraces = false) (b : Addr) (xs : List Int32) : MetFree l x (headSpec (Jvm.Cond.code x code maxLocals ret :: tables_1) room_1) (lw_P b xs) (fun _ _ _ _ _ => True) lw_Q := by
  refine MetFree.of_bodyS (code := code) (maxLocals := maxLocals) (ret := ret) (by decide) ?_ ?_
  · intro args s m h hn
    obtain ⟨meth, c, h1, h2, h3, h4, h5, h6, -, -⟩ := Cond.code_spec hn (atoms_spec (ws := Jvm.Cond.code x code maxLocals ret :: tables_1) h _ List.mem_cons_self)
    exact ⟨meth, c, h1, h2, h3, h4, h5, h6⟩
  · intro p e s m args below meth c s₁ B hml0 hP _
    obtain ⟨rfl, hx, hbd, hgv⟩ := hP
    obtain ⟨scr, harrAt, hlist, hof, hsmall⟩ := hx
    obtain ⟨hcb, hkn, -, -⟩ := State.arrayAt?_spec harrAt
    have hown : s.vm.findClass R_law = some m.cls := findClass_of_methodNamed B.named
    have hts0 : ∀ c ∈ (Jvm.Cond.code x code maxLocals ret :: tables_1), c.before #[Value.ref b] s = true := atoms_spec (ws := Jvm.Cond.code x code maxLocals ret :: tables_1) B.pre
    have hts : ∀ w ∈ lw_tbl, w.before #[Value.ref b] s = true := k2_hts_sels lw_privs (fun w hw => hts0 w (List.mem_cons_of_mem _ hw)) lw_privs_ok
    have hml : c.maxLocals = 7 := B.maxLocals_eq (hts0 _ List.mem_cons_self)
    have X₀ : Stand p l e room_1 s m #[Value.ref b] below meth c s₁ [] 0 0 := Stand.of_body B
    have hh0 : s₁.heap = s.heap := by rw [B.state]; rfl
    have hsz : scr.slots.size = xs.length := by rw [← Array.length_toList, hlist, List.length_map]
    have hval : ∀ j : Nat, j < xs.length → scr.slots[j]? = some (.int (xs.getD j 0)) := fun j hj => by
      rw [← Array.getElem?_toList, hlist]
      simp [hj]
    have hbl : b < s.heap.size := (Array.getElem?_eq_some_iff.mp hcb).1
    have hX : va_X b xs.length (fun j => xs.getD j 0) s s.heap := ⟨scr, hcb, hof, hkn, hsz, hval⟩
    have K : W p l e room_1 s m #[Value.ref b] below meth c s₁.heap [] 0 0 (lw_Z below #[Value.ref b] s) (entryFrame m ([Value.ref b] : List Value).toArray 7) := by
      rw [hh0]
      exact whole_start l htr hbd ⟨B.exec, B.bytes, B.returns, hml, hown, hts, hX, hbl, B.notSynchronized, hgv⟩
    obtain ⟨t, a1, o, b1, b2, b3⟩ := K s₁ rfl X₀
    exact ⟨t, o, a1, b1, b2, b3⟩
theorem lw_pre_spec {args : Array Value} {s : State} (h : (Jvm.Cond.and given_1 narrow_1).before args s = true) (hr : rest_1_c.before args s = true) : ∃ (b : Addr) (xs : List Int32), lw_P b xs args s := by
  have hs := flat_of_before _ h
  have hq := flat_of_before _ hr
  have hc : (Cond.count 1).before args s = true := hs _ (by decide +kernel)
  have harr : (Cond.arrayOf (.arg 0) .int).before args s = true := hs _ (by decide +kernel)
  have hle : (Cond.le (.length (.arg 0)) (.int 2048)).before args s = true := hs _ (by decide +kernel)
  have hlen : (Cond.isInt (.length (.arg 0))).before args s = true := hq _ (by decide +kernel)
  have hall : (Cond.all (.arg 0) (.isInt (.elem (.arg 0) (.index 0)))).before args s = true := hq _ (by decide +kernel)
  obtain ⟨b, xs, hb, hx⟩ := State.ints_of_pre rfl harr hlen hall
  have hsm : xs.length < 2 ^ 31 := hx.choose_spec.2.2.2
  have hev : (Term.length (.arg 0)).eval args s none [] s = some (.int xs.length.toInt32) := hx.length_eval hb
  have hv := Cond.le_ints hev (show (Term.int 2048).eval args s none [] s = some (.int 2048) from rfl)
  have hd : xs.length.toInt32 ≤ 2048 := by
    simpa [Cond.before, Cond.holds, hv] using hle
  have hN : xs.length ≤ 2048 := (Int32.ofNat_le_ofNat hsm (by decide)).mp (show Int32.ofNat xs.length ≤ Int32.ofNat 2048 from hd)
  exact ⟨b, xs, Cond.one_arg hc (show args[0]? = some (.ref b) from hb), hx, hN, h⟩
theorem lw_comes (l : Launch) (htr : l.stackTraces = false) : Comes l x (Jvm.Cond.code x code maxLocals ret :: tables_1) room_1 (fun tb e args s => Calls_1 tb e args s ∧ rest_1 tb e args s ∧ Pre_1 tb e args s)
    (fun _ _ args s o t => lw_Q args s o t) := by
  intro p e ha hc hk s m args below hf hfit hheap happ hpre
  obtain ⟨b, xs, hP⟩ := lw_pre_spec hpre.2.2 hpre.2.1
  obtain ⟨k, o, h1, h2, h3, hQ⟩ := lw_walk l htr b xs p e ha hc hk s m args below hf ((Spec.applies_iff_loose hf).mp happ).1 hP trivial
  exact ⟨k, o, h1, h2, h3, hQ⟩
theorem lw_frame {s t : State} {o : Outcome} {args : Array Value} (h : Framed s o t [] 601024 7293034) :
    Framed s o t (fieldLocs frame_1_writes args s ++ arrayLocs frame_1_arrays args s ++ staticLocs frame_1_statics s) 601024 7293034 := h
theorem lw_limb (L : Cond) (hL : ∀ (args : Array Value) (s t : State), L.after args s (.returned (some (.int 1))) t = true) :
    ArmFor flags0 classFile x code maxLocals ret World_1 tables_1 room_1 Calls_1 rest_1 Pre_1
      (fun tb e a s o t => postC L tb e a s o t ∧ Framed s o t (fieldLocs frame_1_writes a s ++ arrayLocs frame_1_arrays a s ++ staticLocs frame_1_statics s) 601024 7293034) := by
  intro l hfl _ _ p e ha hc hk s m args below hf hfit hheap happ hpre
  obtain ⟨k, o, h1, h2, h3, rfl, hF⟩ := lw_comes l (jfl_off hfl) p e ha hc hk s m args below hf hfit hheap happ hpre
  exact ⟨k, _, h1, h2, h3, hL args s _, lw_frame hF⟩
theorem i_vc : Claimed_1_1 ∧ Claimed_1_2 := ⟨lw_limb limb_1_1 (fun args s t => by simp [limb_1_1, Cond.after, Cond.holds, Cond.value]), lw_limb limb_1_2 (fun args s t => Cond.after_iff.mpr (by
  first | (rw [show limb_1_2 = Cond.eq .result (.int 1) from rfl, Cond.eq_ints (x := 1) (y := 1) rfl rfl]; simp; done) | (simp [limb_1_2, Cond.value, Term.eval]; done)))⟩
