/-! Bits: the family bt of the laws to paste, then sets of transactions. -/
def bt (x : Int32) (i : Nat) : Bool := x.toBitVec.getLsbD i
theorem b_ext {x y : Int32} (h : ∀ i, i < 32 → bt x i = bt y i) : x = y := Int32.toBitVec_inj.mp (BitVec.eq_of_getLsbD_eq (fun i hi => h i hi))
theorem b_or (x y : Int32) (i : Nat) : bt (x ||| y) i = (bt x i || bt y i) := by unfold bt; rw [Int32.toBitVec_or, BitVec.getLsbD_or]
theorem b_and (x y : Int32) (i : Nat) : bt (x &&& y) i = (bt x i && bt y i) := by unfold bt; rw [Int32.toBitVec_and, BitVec.getLsbD_and]
theorem b_xor (x y : Int32) (i : Nat) : bt (x ^^^ y) i = (bt x i ^^ bt y i) := by unfold bt; rw [Int32.toBitVec_xor, BitVec.getLsbD_xor]
theorem b_big {x : Int32} {i : Nat} (h : 32 ≤ i) : bt x i = false := BitVec.getLsbD_of_ge _ _ h
theorem b_255 (i : Nat) : bt 255 i = decide (i < 8) := by
  rcases Nat.lt_or_ge i 32 with h | h
  · exact (by decide +kernel : ∀ i, i < 32 → bt 255 i = decide (i < 8)) i h
  · rw [b_big h, decide_eq_false (by omega)]
theorem b_65535 (i : Nat) : bt 65535 i = decide (i < 16) := by
  rcases Nat.lt_or_ge i 32 with h | h
  · exact (by decide +kernel : ∀ i, i < 32 → bt 65535 i = decide (i < 16)) i h
  · rw [b_big h, decide_eq_false (by omega)]
theorem b_m1 : ∀ i, i < 32 → bt (-1) i = true := by decide +kernel
theorem b_0 (i : Nat) : bt 0 i = false := BitVec.getLsbD_zero
theorem s_l : ∀ n, n < 32 → ((nI n &&& 31).toBitVec.smod 32).toNat = n := by decide +kernel
theorem s_u : ∀ n, n < 32 → (((nI n).toUInt32 &&& Int32.toUInt32 31).toBitVec % 32).toNat = n := by decide +kernel
theorem b_shl (n : Nat) (hn : n < 32) (x : Int32) {i : Nat} (hi : i < 32) : bt (x <<< (nI n &&& 31)) i = (decide (n ≤ i) && bt x (i - n)) := by
  unfold bt
  rw [Int32.toBitVec_shiftLeft]
  show (x.toBitVec <<< ((nI n &&& 31).toBitVec.smod 32).toNat).getLsbD i = _
  rw [s_l n hn, BitVec.getLsbD_shiftLeft]
  rcases Nat.lt_or_ge i n with h | h
  · simp [h, Nat.not_le.mpr h]
  · simp [hi, h, Nat.not_lt.mpr h]
/-! sets of transactions: the Int32 of a set, bit by bit -/
def jbN (S : Nat → Bool) : Nat → Nat
  | 0 => 0
  | k + 1 => jbN S k ||| (if S k then 2 ^ k else 0)
theorem jbN_test (S : Nat → Bool) (k i : Nat) : (jbN S k).testBit i = (decide (i < k) && S i) := by
  induction k with
  | zero => simp [jbN]
  | succ k ih =>
    rw [jbN, Nat.testBit_or, ih]
    by_cases hS : S k
    · rw [if_pos hS, Nat.testBit_two_pow]
      by_cases h : k = i
      · subst h; simp [hS]
      · have e : decide (i < k + 1) = decide (i < k) := by
          by_cases h2 : i < k
          · simp [h2, Nat.lt_succ_of_lt h2]
          · have : ¬ i < k + 1 := by omega
            simp [h2, this]
        simp [h, e]
    · rw [if_neg hS, Nat.zero_testBit, Bool.or_false]
      by_cases h : i = k
      · subst h; simp [hS]
      · have e : decide (i < k + 1) = decide (i < k) := by
          by_cases h2 : i < k
          · simp [h2, Nat.lt_succ_of_lt h2]
          · have : ¬ i < k + 1 := by omega
            simp [h2, this]
        rw [e]
theorem jbN_lt (S : Nat → Bool) (k : Nat) : jbN S k < 2 ^ k := by
  induction k with
  | zero => simp [jbN]
  | succ k ih =>
    rw [jbN]
    refine Nat.or_lt_two_pow (Nat.lt_of_lt_of_le ih (Nat.pow_le_pow_right (by omega) (by omega))) ?_
    by_cases hS : S k
    · rw [if_pos hS]; exact Nat.pow_lt_pow_right (by omega) (by omega)
    · rw [if_neg hS]; exact Nat.two_pow_pos _
def bI (S : Nat → Bool) : Int32 := nI (jbN S 8)
theorem bt_nI (n i : Nat) : bt (nI n) i = (decide (i < 32) && n.testBit i) := by
  show (BitVec.ofNat 32 n).getLsbD i = _
  rw [BitVec.getLsbD_ofNat]
theorem bt_bI (S : Nat → Bool) (i : Nat) : bt (bI S) i = (decide (i < 8) && S i) := by
  unfold bI
  rw [bt_nI, jbN_test]
  by_cases h : i < 8
  · simp [h, show i < 32 by omega]
  · simp [h]
theorem bI_ext {S T : Nat → Bool} (h : ∀ i, i < 8 → S i = T i) : bI S = bI T := by
  refine b_ext (fun i _ => ?_)
  rw [bt_bI, bt_bI]
  by_cases hi : i < 8
  · rw [h i hi]
  · simp [hi]
theorem bI_inj {S T : Nat → Bool} (h : bI S = bI T) : ∀ i, i < 8 → S i = T i := by
  intro i hi
  have := congrArg (fun x => bt x i) h
  simp only [bt_bI, hi, decide_true, Bool.true_and] at this
  exact this
theorem bI_or (S T : Nat → Bool) : bI S ||| bI T = bI (fun i => S i || T i) := by
  refine b_ext (fun i _ => ?_)
  rw [b_or, bt_bI, bt_bI, bt_bI]
  by_cases hi : i < 8 <;> simp [hi]
theorem bI_and (S T : Nat → Bool) : bI S &&& bI T = bI (fun i => S i && T i) := by
  refine b_ext (fun i _ => ?_)
  rw [b_and, bt_bI, bt_bI, bt_bI]
  by_cases hi : i < 8 <;> simp [hi]
theorem bI_andn (S T : Nat → Bool) : bI S &&& (bI T ^^^ (-1)) = bI (fun i => S i && !(T i)) := by
  refine b_ext (fun i h => ?_)
  rw [b_and, b_xor, bt_bI, bt_bI, bt_bI, b_m1 i h]
  by_cases hi : i < 8 <;> simp [hi]
theorem bI_false : bI (fun _ => false) = 0 := by
  refine b_ext (fun i _ => ?_)
  rw [bt_bI, b_0]; simp
theorem bI_zero (S : Nat → Bool) : bI S = 0 ↔ ∀ i, i < 8 → S i = false := by
  rw [← bI_false]
  exact ⟨fun h i hi => bI_inj h i hi, fun h => bI_ext h⟩
theorem bI_one {t : Nat} (ht : t < 8) : (1 : Int32) <<< (nI t &&& 31) = bI (fun i => decide (i = t)) := by
  refine b_ext (fun i h => ?_)
  rw [b_shl t (by omega) 1 h, bt_bI]
  have h1 : bt 1 (i - t) = decide (i - t = 0) := (by decide +kernel : ∀ k, k < 32 → bt 1 k = decide (k = 0)) (i - t) (by omega)
  rw [h1]
  by_cases e : i = t
  · subst e; simp [ht]
  · by_cases h2 : t ≤ i
    · have : ¬ i - t = 0 := by omega
      simp [e, this]
    · simp [e, h2]
