/-! ===== the strait as numbers: what the document's words mean ===== -/
def cnt (p : Nat → Bool) : Nat → Nat
  | 0 => 0
  | k + 1 => cnt p k + (bif p k then 1 else 0)
theorem cnt_le (p : Nat → Bool) : ∀ n, cnt p n ≤ n
  | 0 => Nat.le_refl 0
  | n + 1 => by
    have := cnt_le p n
    unfold cnt
    cases p n <;> simp <;> omega
theorem cnt_congr {p q : Nat → Bool} : ∀ {n : Nat}, (∀ k, k < n → p k = q k) → cnt p n = cnt q n
  | 0, _ => rfl
  | n + 1, h => by
    unfold cnt
    rw [cnt_congr (fun k hk => h k (Nat.lt_succ_of_lt hk)), h n (Nat.lt_succ_self n)]
/-- what a strait and its ships' courses are: lights, reach, dark, places, kinds, ships, courses -/
abbrev KF : Type := Nat × Nat × Nat × (Nat → Nat) × (Nat → Nat) × Nat × (Nat → Int)
def kL (K : KF) : Nat := K.1
def kR (K : KF) : Nat := K.2.1
def kD (K : KF) : Nat := K.2.2.1
def kP (K : KF) : Nat → Nat := K.2.2.2.1
def kK (K : KF) : Nat → Nat := K.2.2.2.2.1
def kN (K : KF) : Nat := K.2.2.2.2.2.1
def kC (K : KF) : Nat → Int := K.2.2.2.2.2.2
/-- what goes on: for how long dark, ships' places, how they are, the breath -/
abbrev AS : Type := (Nat → Nat) × (Nat → Nat) × (Nat → Nat) × Int32
def aD (A : AS) : Nat → Nat := A.1
def aP (A : AS) : Nat → Nat := A.2.1
def aQ (A : AS) : Nat → Nat := A.2.2.1
def aB (A : AS) : Int32 := A.2.2.2
def near (K : KF) (k x : Nat) : Bool := decide (kP K k ≤ x + kR K) && decide (x ≤ kP K k + kR K)
def litA (A : AS) (k : Nat) : Bool := decide (aD A k = 0)
def shine (K : KF) (A : AS) (x : Nat) : Nat := cnt (fun k => litA A k && near K k x) (kL K)
def toP (K : KF) (A : AS) (s : Nat) : Int := (aP A s : Int) + kC K s
def newQ (K : KF) (A : AS) (s : Nat) : Nat := if aQ A s = 0 then (if toP K A s < 0 ∨ 9 < toP K A s then 1 else if shine K A (toP K A s).toNat = 0 then 2 else 0) else aQ A s
def newP (K : KF) (A : AS) (s : Nat) : Nat := if aQ A s = 0 ∧ newQ K A s = 0 then (toP K A s).toNat else aP A s
def lostN (K : KF) (A : AS) : Nat := cnt (fun s => decide (aQ A s = 0) && decide (newQ K A s = 2)) (kN K)
def stepA (K : KF) (A : AS) : AS := (fun k => aD A k - 1, newP K A, newQ K A, aB A + 1)
/-- lost in so many breaths -/
def lostIn (K : KF) : Nat → AS → Nat
  | 0, _ => 0
  | j + 1, A => lostN K A + lostIn K j (stepA K A)
def goDark (K : KF) (A : AS) (set : Nat) : AS := (fun k => if set.testBit k then kD K else aD A k, aP A, aQ A, aB A)
def lostBy (K : KF) (A : AS) (set : Nat) : Nat := lostIn K (kD K) (goDark K A set)
def mayGo (K : KF) (A : AS) (k : Nat) : Bool := litA A k && decide (lostBy K A (2 ^ k) ≤ lostBy K A 0)
theorem newQ_le (K : KF) (A : AS) {s : Nat} (h : aQ A s ≤ 2) : newQ K A s ≤ 2 := by
  unfold newQ
  split
  · split
    · omega
    · split <;> omega
  · exact h
theorem newP_lt (K : KF) (A : AS) {s : Nat} (h : aP A s < 10) : newP K A s < 10 := by
  unfold newP
  split
  · rename_i h1
    obtain ⟨h2, h3⟩ := h1
    unfold newQ at h3
    rw [if_pos h2] at h3
    split at h3
    · omega
    · rename_i h4
      omega
  · exact h
theorem lostN_le (K : KF) (A : AS) : lostN K A ≤ kN K := cnt_le _ _
theorem lostIn_le (K : KF) : ∀ (j : Nat) (A : AS), lostIn K j A ≤ j * kN K
  | 0, _ => Nat.zero_le _
  | j + 1, A => by
    have h1 := lostN_le K A
    have h2 := lostIn_le K j (stepA K A)
    show lostN K A + lostIn K j (stepA K A) ≤ (j + 1) * kN K
    rw [Nat.add_mul, Nat.one_mul]
    omega
/-! numbers in code -/
theorem nIc {i : Nat} (h : i < 2147483648) : (nI i).toNatClampNeg = i := nI_clamp h
theorem nge {i L : Nat} {x : Int32} (h : i < L) (hL : L < 1000000) (hx : x = nI L) : ¬ x ≤ nI i := by
  rw [hx]
  exact nI_ge h (by omega)
theorem nle {i : Nat} {x : Int32} (hx : x = nI i) : x ≤ nI i := by
  rw [hx]
  exact Int32.le_refl _
theorem ixm (c d i : Nat) : nI c * nI i + nI d = nI (c * i + d) := by rw [pk_mul, nI_add]
theorem ixc (c d i : Nat) (h : c * i + d < 1000000) : (nI c * nI i + nI d).toNatClampNeg = c * i + d := by
  rw [ixm]
  exact nIc (by omega)
theorem ixin (c d i N : Nat) (h : c * i + d < N) (hN : N < 1000000) : vp_in (nI c * nI i + nI d) N := by
  rw [ixm]
  exact vp_in_nI h (by omega)
theorem ix0c (c i : Nat) (h : c * i < 1000000) : (nI c * nI i).toNatClampNeg = c * i := by
  rw [pk_mul]
  exact nIc (by omega)
theorem ix0in (c i N : Nat) (h : c * i < N) (hN : N < 1000000) : vp_in (nI c * nI i) N := by
  rw [pk_mul]
  exact vp_in_nI h (by omega)
theorem inn {i N : Nat} (h : i < N) (hN : N < 1000000) : vp_in (nI i) N := vp_in_nI h (by omega)
theorem nI_inj {a b : Nat} (ha : a < 1000000) (hb : b < 1000000) (h : nI a = nI b) : a = b := (nI_eq (by omega) (by omega)).mp h
theorem nI_eq0 {a : Nat} (ha : a < 1000000) : nI a = 0 ↔ a = 0 := nI_eq (b := 0) (by omega) (by decide)
theorem ofInt_nat (n : Nat) : Int32.ofInt (n : Int) = nI n := rfl
theorem toInt_ofInt {i : Int} (h1 : -1000000 < i) (h2 : i < 1000000) : (Int32.ofInt i).toInt = i := by
  rw [Int32.toInt_ofInt]
  exact Int.bmod_eq_of_le (by rw [show Int32.size = 4294967296 from rfl]; omega) (by rw [show Int32.size = 4294967296 from rfl]; omega)
theorem nI_toI {n : Nat} (h : n < 1000000) : (nI n).toInt = (n : Int) := nI_toInt (by omega)
