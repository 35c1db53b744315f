/-! bits: the first family is pasted out of kit/laws/BITS.to-paste -/
def bt (x : Int32) (i : Nat) : Bool := x.toBitVec.getLsbD i
theorem b_ext {x y : Int32} (h : ∀ i, i < 32 → bt x i = bt y i) : x = y := Int32.toBitVec_inj.mp (BitVec.eq_of_getLsbD_eq (fun i hi => h i hi))
theorem b_or (x y : Int32) (i : Nat) : bt (x ||| y) i = (bt x i || bt y i) := by unfold bt; rw [Int32.toBitVec_or, BitVec.getLsbD_or]
theorem b_and (x y : Int32) (i : Nat) : bt (x &&& y) i = (bt x i && bt y i) := by unfold bt; rw [Int32.toBitVec_and, BitVec.getLsbD_and]
theorem b_xor (x y : Int32) (i : Nat) : bt (x ^^^ y) i = (bt x i ^^ bt y i) := by unfold bt; rw [Int32.toBitVec_xor, BitVec.getLsbD_xor]
theorem b_big {x : Int32} {i : Nat} (h : 32 ≤ i) : bt x i = false := BitVec.getLsbD_of_ge _ _ h
theorem b_255 (i : Nat) : bt 255 i = decide (i < 8) := by
  rcases Nat.lt_or_ge i 32 with h | h
  · exact (by decide +kernel : ∀ i, i < 32 → bt 255 i = decide (i < 8)) i h
  · rw [b_big h, decide_eq_false (by omega)]
theorem b_65535 (i : Nat) : bt 65535 i = decide (i < 16) := by
  rcases Nat.lt_or_ge i 32 with h | h
  · exact (by decide +kernel : ∀ i, i < 32 → bt 65535 i = decide (i < 16)) i h
  · rw [b_big h, decide_eq_false (by omega)]
theorem b_m1 : ∀ i, i < 32 → bt (-1) i = true := by decide +kernel
theorem b_0 (i : Nat) : bt 0 i = false := BitVec.getLsbD_zero
theorem s_l : ∀ n, n < 32 → ((nI n &&& 31).toBitVec.smod 32).toNat = n := by decide +kernel
theorem s_u : ∀ n, n < 32 → (((nI n).toUInt32 &&& Int32.toUInt32 31).toBitVec % 32).toNat = n := by decide +kernel
theorem b_shl (n : Nat) (hn : n < 32) (x : Int32) {i : Nat} (hi : i < 32) : bt (x <<< (nI n &&& 31)) i = (decide (n ≤ i) && bt x (i - n)) := by
  unfold bt
  rw [Int32.toBitVec_shiftLeft]
  show (x.toBitVec <<< ((nI n &&& 31).toBitVec.smod 32).toNat).getLsbD i = _
  rw [s_l n hn, BitVec.getLsbD_shiftLeft]
  rcases Nat.lt_or_ge i n with h | h
  · simp [h, Nat.not_le.mpr h]
  · simp [hi, h, Nat.not_lt.mpr h]
theorem b_ushr (n : Nat) (hn : n < 32) (x : Int32) (i : Nat) : bt ((x.toUInt32 >>> ((nI n).toUInt32 &&& Int32.toUInt32 31)).toInt32) i = bt x (n + i) := by
  show (x.toUInt32 >>> ((nI n).toUInt32 &&& Int32.toUInt32 31)).toBitVec.getLsbD i = x.toUInt32.toBitVec.getLsbD (n + i)
  rw [UInt32.toBitVec_shiftRight]
  show (x.toUInt32.toBitVec >>> (((nI n).toUInt32 &&& Int32.toUInt32 31).toBitVec % 32).toNat).getLsbD i = _
  rw [s_u n hn, BitVec.getLsbD_ushiftRight]
theorem b_sshr (n : Nat) (hn : n < 32) (x : Int32) {i : Nat} (hi : i < 32) : bt (x >>> (nI n &&& 31)) i = if n + i < 32 then bt x (n + i) else bt x 31 := by
  unfold bt
  rw [Int32.toBitVec_shiftRight]
  show (x.toBitVec.sshiftRight ((nI n &&& 31).toBitVec.smod 32).toNat).getLsbD i = _
  rw [s_l n hn, BitVec.getLsbD_sshiftRight, BitVec.msb_eq_getLsbD_last]
  simp [hi]
theorem b_1 : ∀ i, i < 32 → bt 1 i = decide (i = 0) := by decide +kernel
theorem bitI_bt (x : Int32) {j : Nat} (hj : j < 32) : bitI x j = if bt x j then 1 else 0 := by
  apply b_ext
  intro i hi
  unfold bitI
  rw [b_and, b_sshr j hj x hi, b_1 i hi]
  by_cases h : i = 0
  · subst h
    rw [if_pos (by omega), decide_eq_true rfl, Bool.and_true, Nat.add_zero]
    cases bt x j
    · exact (b_0 0).symm
    · exact (b_1 0 (by decide)).symm
  · rw [decide_eq_false h, Bool.and_false]
    cases bt x j
    · exact (b_0 i).symm
    · rw [if_pos rfl, b_1 i hi, decide_eq_false h]
theorem bitI_1 (x : Int32) {j : Nat} (hj : j < 32) : bitI x j = 1 ↔ bt x j = true := by
  rw [bitI_bt x hj]
  cases bt x j
  · exact ⟨fun h => absurd h (by decide), fun h => absurd h (by decide)⟩
  · exact ⟨fun _ => rfl, fun _ => rfl⟩
theorem bitI_0 (x : Int32) {j : Nat} (hj : j < 32) : bitI x j = 0 ↔ bt x j = false := by
  rw [bitI_bt x hj]
  cases bt x j
  · exact ⟨fun _ => rfl, fun _ => rfl⟩
  · exact ⟨fun h => absurd h (by decide), fun h => absurd h (by decide)⟩
theorem bitI_or (x : Int32) {j : Nat} (hj : j < 32) : bitI x j = 0 ∨ bitI x j = 1 := by
  rw [bitI_bt x hj]
  cases bt x j
  · exact Or.inl rfl
  · exact Or.inr rfl
/-- one bit -/
def oneB (k : Nat) : Int32 := (1 : Int32) <<< (nI k &&& 31)
theorem bt_one {k i : Nat} (hk : k < 32) (hi : i < 32) : bt (oneB k) i = decide (i = k) := by
  unfold oneB
  rw [b_shl k hk 1 hi]
  by_cases h : i = k
  · subst h
    rw [Nat.sub_self, decide_eq_true rfl, decide_eq_true (Nat.le_refl _)]
    rfl
  · rw [decide_eq_false h]
    by_cases h2 : k ≤ i
    · rw [b_1 (i - k) (by omega), decide_eq_false (show ¬ i - k = 0 by omega), Bool.and_false]
    · rw [decide_eq_false h2, Bool.false_and]
theorem b_not (x : Int32) {i : Nat} (hi : i < 32) : bt (x ^^^ (-1)) i = !bt x i := by
  rw [b_xor, b_m1 i hi, Bool.xor_true]
/-- a set of at most m places -/
def smallB (m : Nat) (x : Int32) : Prop := ∀ i, m ≤ i → bt x i = false
theorem bt_nI {n i : Nat} (hi : i < 32) : bt (nI n) i = n.testBit i := by
  show (BitVec.ofNat 32 n).getLsbD i = n.testBit i
  rw [BitVec.getLsbD_ofNat]
  simp [hi]
theorem small_nI {m n : Nat} (h : n < 2 ^ m) : smallB m (nI n) := by
  intro i hi
  by_cases h2 : i < 32
  · rw [bt_nI h2]
    exact Nat.testBit_lt_two_pow (Nat.lt_of_lt_of_le h (Nat.pow_le_pow_right (by decide) hi))
  · exact b_big (by omega)
theorem nI_small {m : Nat} (hm : m < 32) {x : Int32} (h : smallB m x) : ∃ n : Nat, n < 2 ^ m ∧ x = nI n := by
  refine ⟨x.toBitVec.toNat, ?_, ?_⟩
  · apply Nat.lt_of_not_le
    intro hc
    obtain ⟨i, h1, h2⟩ := Nat.exists_ge_and_testBit_of_ge_two_pow hc
    have := h i h1
    unfold bt BitVec.getLsbD at this
    rw [h2] at this
    cases this
  · apply Int32.toBitVec_inj.1
    show x.toBitVec = BitVec.ofNat 32 x.toBitVec.toNat
    rw [BitVec.ofNat_toNat, BitVec.setWidth_eq]
