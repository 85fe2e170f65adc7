theorem fa_and (a b : Nat) : nI a &&& nI b = nI (a &&& b) := by
  apply Int32.toBitVec_inj.1
  show BitVec.ofNat 32 a &&& BitVec.ofNat 32 b = BitVec.ofNat 32 (a &&& b)
  apply BitVec.eq_of_getLsbD_eq
  intro i hi
  simp [hi]
theorem fa_or (a b : Nat) : nI a ||| nI b = nI (a ||| b) := by
  apply Int32.toBitVec_inj.1
  show BitVec.ofNat 32 a ||| BitVec.ofNat 32 b = BitVec.ofNat 32 (a ||| b)
  apply BitVec.eq_of_getLsbD_eq
  intro i hi
  simp [hi]
def bt (x : Int32) (i : Nat) : Bool := x.toBitVec.getLsbD i
theorem b_ext {x y : Int32} (h : ∀ i, i < 32 → bt x i = bt y i) : x = y := Int32.toBitVec_inj.mp (BitVec.eq_of_getLsbD_eq (fun i hi => h i hi))
theorem b_or (x y : Int32) (i : Nat) : bt (x ||| y) i = (bt x i || bt y i) := by unfold bt; rw [Int32.toBitVec_or, BitVec.getLsbD_or]
theorem b_and (x y : Int32) (i : Nat) : bt (x &&& y) i = (bt x i && bt y i) := by unfold bt; rw [Int32.toBitVec_and, BitVec.getLsbD_and]
theorem b_xor (x y : Int32) (i : Nat) : bt (x ^^^ y) i = (bt x i ^^ bt y i) := by unfold bt; rw [Int32.toBitVec_xor, BitVec.getLsbD_xor]
theorem b_big {x : Int32} {i : Nat} (h : 32 ≤ i) : bt x i = false := BitVec.getLsbD_of_ge _ _ h
theorem b_255 (i : Nat) : bt 255 i = decide (i < 8) := by
  rcases Nat.lt_or_ge i 32 with h | h
  · exact (by decide +kernel : ∀ i, i < 32 → bt 255 i = decide (i < 8)) i h
  · rw [b_big h, decide_eq_false (by omega)]
theorem b_65535 (i : Nat) : bt 65535 i = decide (i < 16) := by
  rcases Nat.lt_or_ge i 32 with h | h
  · exact (by decide +kernel : ∀ i, i < 32 → bt 65535 i = decide (i < 16)) i h
  · rw [b_big h, decide_eq_false (by omega)]
theorem b_m1 : ∀ i, i < 32 → bt (-1) i = true := by decide +kernel
theorem b_0 (i : Nat) : bt 0 i = false := BitVec.getLsbD_zero
theorem s_l : ∀ n, n < 32 → ((nI n &&& 31).toBitVec.smod 32).toNat = n := by decide +kernel
theorem s_u : ∀ n, n < 32 → (((nI n).toUInt32 &&& Int32.toUInt32 31).toBitVec % 32).toNat = n := by decide +kernel
theorem b_shl (n : Nat) (hn : n < 32) (x : Int32) {i : Nat} (hi : i < 32) : bt (x <<< (nI n &&& 31)) i = (decide (n ≤ i) && bt x (i - n)) := by
  unfold bt
  rw [Int32.toBitVec_shiftLeft]
  show (x.toBitVec <<< ((nI n &&& 31).toBitVec.smod 32).toNat).getLsbD i = _
  rw [s_l n hn, BitVec.getLsbD_shiftLeft]
  rcases Nat.lt_or_ge i n with h | h
  · simp [h, Nat.not_le.mpr h]
  · simp [hi, h, Nat.not_lt.mpr h]
theorem b_ushr (n : Nat) (hn : n < 32) (x : Int32) (i : Nat) : bt ((x.toUInt32 >>> ((nI n).toUInt32 &&& Int32.toUInt32 31)).toInt32) i = bt x (n + i) := by
  show (x.toUInt32 >>> ((nI n).toUInt32 &&& Int32.toUInt32 31)).toBitVec.getLsbD i = x.toUInt32.toBitVec.getLsbD (n + i)
  rw [UInt32.toBitVec_shiftRight]
  show (x.toUInt32.toBitVec >>> (((nI n).toUInt32 &&& Int32.toUInt32 31).toBitVec % 32).toNat).getLsbD i = _
  rw [s_u n hn, BitVec.getLsbD_ushiftRight]
theorem b_sshr (n : Nat) (hn : n < 32) (x : Int32) {i : Nat} (hi : i < 32) : bt (x >>> (nI n &&& 31)) i = if n + i < 32 then bt x (n + i) else bt x 31 := by
  unfold bt
  rw [Int32.toBitVec_shiftRight]
  show (x.toBitVec.sshiftRight ((nI n &&& 31).toBitVec.smod 32).toNat).getLsbD i = _
  rw [s_l n hn, BitVec.getLsbD_sshiftRight, BitVec.msb_eq_getLsbD_last]
  simp [hi]
theorem bt_nI {n : Nat} (i : Nat) (hn : n < 65536) : bt (nI n) i = n.testBit i := by
  unfold bt
  show (BitVec.ofNat 32 n).getLsbD i = n.testBit i
  rw [BitVec.getLsbD_ofNat]
  by_cases hi : i < 32
  · simp [hi]
  · have : n.testBit i = false := Nat.testBit_lt_two_pow (Nat.lt_of_lt_of_le hn (by
      have : 2 ^ 16 ≤ 2 ^ i := Nat.pow_le_pow_right (by decide) (by omega)
      omega))
    rw [this]
    simp [hi]
theorem and_not {b y : Nat} (hb : b < 65536) (hy : y < 65536) : nI b &&& (nI y ^^^ -1) = nI (b &&& (65535 ^^^ y)) := by
  apply b_ext
  intro i hi
  have h1 : b &&& (65535 ^^^ y) < 65536 := Nat.lt_of_le_of_lt Nat.and_le_left hb
  rw [b_and, b_xor, bt_nI i hb, bt_nI i hy, b_m1 i hi, bt_nI i h1, Nat.testBit_and, Nat.testBit_xor]
  by_cases h16 : i < 16
  · have : Nat.testBit 65535 i = true := by
      have : (65535 : Nat) = 2 ^ 16 - 1 := rfl
      rw [this, Nat.testBit_two_pow_sub_one]
      simp [h16]
    rw [this]
    cases y.testBit i <;> cases b.testBit i <;> rfl
  · have : b.testBit i = false := Nat.testBit_lt_two_pow (Nat.lt_of_lt_of_le hb (by
      have : 2 ^ 16 ≤ 2 ^ i := Nat.pow_le_pow_right (by decide) (by omega)
      omega))
    rw [this]
    rfl
/-- a set as bits -/
def msk (p : Nat → Bool) : Nat → Nat
  | 0 => 0
  | k + 1 => msk p k ||| (bif p k then 2 ^ k else 0)
theorem msk_lt (p : Nat → Bool) : ∀ n, msk p n < 2 ^ n
  | 0 => Nat.one_pos
  | n + 1 => by
    have h1 := msk_lt p n
    unfold msk
    have h2 : 2 ^ n < 2 ^ (n + 1) := Nat.pow_lt_pow_right (by decide) (by omega)
    apply Nat.or_lt_two_pow
    · omega
    · cases p n
      · exact Nat.two_pow_pos _
      · exact h2
theorem msk_bit (p : Nat → Bool) : ∀ n k, (msk p n).testBit k = (decide (k < n) && p k)
  | 0, k => by simp [msk]
  | n + 1, k => by
    unfold msk
    rw [Nat.testBit_or, msk_bit p n k]
    by_cases hk : k = n
    · subst hk
      cases p k <;> simp [Nat.testBit_two_pow_self]
    · have h1 : (bif p n then 2 ^ n else 0).testBit k = false := by
        cases p n
        · simp
        · simp only [cond_true]
          rw [Nat.testBit_two_pow]
          simp
          omega
      rw [h1, Bool.or_false]
      have : decide (k < n + 1) = decide (k < n) := by
        apply decide_eq_decide.mpr
        omega
      rw [this]
theorem msk_congr {p q : Nat → Bool} : ∀ {n : Nat}, (∀ k, k < n → p k = q k) → msk p n = msk q n
  | 0, _ => rfl
  | n + 1, h => by
    unfold msk
    rw [msk_congr (fun k hk => h k (Nat.lt_succ_of_lt hk)), h n (Nat.lt_succ_self n)]
theorem onesF_nI {b : Nat} (hb : b < 65536) : ∀ k, k ≤ 16 → onesF (nI b) k = nI (cnt (fun i => b.testBit i) k)
  | 0, _ => rfl
  | k + 1, hk => by
    unfold onesF cnt
    rw [onesF_nI hb k (by omega)]
    have h1 : (nI b >>> (nI k &&& 31)) &&& 1 = nI (bif b.testBit k then 1 else 0) := by
      rw [bitAt hb (by omega), Nat.testBit_eq_decide_div_mod_eq]
      have : b / 2 ^ k % 2 < 2 := Nat.mod_lt _ (by decide)
      by_cases h : b / 2 ^ k % 2 = 1
      · rw [h]; rfl
      · rw [show b / 2 ^ k % 2 = 0 by omega]; rfl
    rw [h1, nI_add]
def pc16 (b : Nat) : Nat := cnt (fun i => b.testBit i) 16
theorem ct_M_onesN {b : Nat} {x : Int32} (hx : x = nI b) (hb : b < 65536) (h : Hp) : Ct 0 md_M_ones [.int x] h (ex (.int (nI (pc16 b))) h) := by
  have h1 := ct_M_ones x h
  rw [hx, onesF_nI hb 16 (by omega)] at h1
  rw [hx]
  exact h1
