/-! ===== Integer.bitCount, numberOfTrailingZeros, over 16 bits ===== -/
def bcN (n : Nat) : Nat :=
  (fun a => (fun b => (fun c => (fun d => Nat.land (Nat.add d (Nat.div d 65536)) 63) (Nat.add c (Nat.div c 256))) (Nat.land (Nat.add b (Nat.div b 16)) 252645135)) (Nat.add (Nat.land a 858993459) (Nat.land (Nat.div a 4) 858993459))) (Nat.sub n (Nat.land (Nat.div n 2) 1431655765))
def pcK : Nat → Nat → Nat → Nat
  | 0, _, acc => acc
  | k + 1, n, acc => pcK k (Nat.div n 2) (Nat.add acc (Nat.mod n 2))
theorem pcK_eq : ∀ (k n acc : Nat), pcK k n acc = acc + cnt (fun i => n.testBit i) k
  | 0, n, acc => rfl
  | k + 1, n, acc => by
    show pcK k (n / 2) (acc + n % 2) = _
    rw [pcK_eq k (n / 2) (acc + n % 2)]
    have h1 : ∀ j, cnt (fun i => n.testBit i) (j + 1) = n % 2 + cnt (fun i => (n / 2).testBit i) j := by
      intro j
      induction j with
      | zero =>
        show 0 + (bif n.testBit 0 then 1 else 0) = n % 2 + 0
        rw [Nat.testBit_zero]
        rcases Nat.mod_two_eq_zero_or_one n with h | h <;> simp [h]
      | succ j ih =>
        have e : cnt (fun i => n.testBit i) (j + 1 + 1) = cnt (fun i => n.testBit i) (j + 1) + (bif n.testBit (j + 1) then 1 else 0) := rfl
        have e2 : cnt (fun i => (n / 2).testBit i) (j + 1) = cnt (fun i => (n / 2).testBit i) j + (bif (n / 2).testBit j then 1 else 0) := rfl
        rw [e, ih, e2, Nat.testBit_succ]
        omega
    rw [h1 k]
    omega
def bcL : Nat → Nat → Bool
  | 0, _ => true
  | k + 1, n => (Nat.beq (bcN n) (pcK 16 n 0)).and (bcL k (Nat.add n 1))
theorem bcL_ok : ∀ (k n : Nat), bcL k n = true → ∀ m, n ≤ m → m < n + k → bcN m = pcK 16 m 0
  | 0, n, _, m, h1, h2 => by omega
  | k + 1, n, h, m, h1, h2 => by
    have h' : (Nat.beq (bcN n) (pcK 16 n 0)).and (bcL k (n + 1)) = true := h
    rw [Bool.and_eq_true] at h'
    by_cases hm : m = n
    · subst hm
      exact Nat.eq_of_beq_eq_true h'.1
    · exact bcL_ok k (n + 1) h'.2 m (by omega) (by omega)
def tzK : Nat → Nat → Nat
  | 0, _ => 0
  | k + 1, n => bif Nat.beq (Nat.mod n 2) 1 then 0 else Nat.add (tzK k (Nat.div n 2)) 1
def tzL : Nat → Nat → Bool
  | 0, _ => true
  | k + 1, n => (Nat.beq (Nat.land (Nat.sub n 1) (Nat.xor 65535 n)) (Nat.sub (Nat.pow 2 (tzK 16 n)) 1)).and (tzL k (Nat.add n 1))
theorem tzL_ok : ∀ (k n : Nat), tzL k n = true → ∀ m, n ≤ m → m < n + k → (m - 1) &&& (65535 ^^^ m) = 2 ^ (tzK 16 m) - 1
  | 0, n, _, m, h1, h2 => by omega
  | k + 1, n, h, m, h1, h2 => by
    have h' : (Nat.beq ((n - 1) &&& (65535 ^^^ n)) (2 ^ (tzK 16 n) - 1)).and (tzL k (n + 1)) = true := h
    rw [Bool.and_eq_true] at h'
    by_cases hm : m = n
    · subst hm
      exact Nat.eq_of_beq_eq_true h'.1
    · exact tzL_ok k (n + 1) h'.2 m (by omega) (by omega)
theorem tz_spec : ∀ (k n : Nat), n < 2 ^ k → n ≠ 0 → tzK k n < k ∧ n.testBit (tzK k n) = true ∧ ∀ i, i < tzK k n → n.testBit i = false
  | 0, n, h1, h2 => by
    have : n < 1 := h1
    omega
  | k + 1, n, h1, h2 => by
    by_cases hm : n % 2 = 1
    · have e : tzK (k + 1) n = 0 := by
        show (bif Nat.beq (n % 2) 1 then 0 else tzK k (n / 2) + 1) = 0
        rw [hm]
        rfl
      rw [e]
      refine ⟨by omega, ?_, fun i hi => by omega⟩
      rw [Nat.testBit_zero]
      simp [hm]
    · have hm0 : n % 2 = 0 := by omega
      have e : tzK (k + 1) n = tzK k (n / 2) + 1 := by
        show (bif Nat.beq (n % 2) 1 then 0 else tzK k (n / 2) + 1) = _
        rw [hm0]
        rfl
      have h3 : n / 2 < 2 ^ k := by
        rw [Nat.pow_succ] at h1
        omega
      obtain ⟨g1, g2, g3⟩ := tz_spec k (n / 2) h3 (by omega)
      rw [e]
      refine ⟨by omega, by rw [Nat.testBit_succ]; exact g2, fun i hi => ?_⟩
      match i with
      | 0 =>
        rw [Nat.testBit_zero]
        simp [hm0]
      | i + 1 =>
        rw [Nat.testBit_succ]
        exact g3 i (by omega)
theorem bcC0 : bcL 2048 0 = true := by decide +kernel
theorem tzC0 : tzL 2048 1 = true := by decide +kernel
theorem bcC1 : bcL 2048 2048 = true := by decide +kernel
theorem tzC1 : tzL 2048 2048 = true := by decide +kernel
theorem bcC2 : bcL 2048 4096 = true := by decide +kernel
theorem tzC2 : tzL 2048 4096 = true := by decide +kernel
theorem bcC3 : bcL 2048 6144 = true := by decide +kernel
theorem tzC3 : tzL 2048 6144 = true := by decide +kernel
theorem bcC4 : bcL 2048 8192 = true := by decide +kernel
theorem tzC4 : tzL 2048 8192 = true := by decide +kernel
theorem bcC5 : bcL 2048 10240 = true := by decide +kernel
theorem tzC5 : tzL 2048 10240 = true := by decide +kernel
theorem bcC6 : bcL 2048 12288 = true := by decide +kernel
theorem tzC6 : tzL 2048 12288 = true := by decide +kernel
theorem bcC7 : bcL 2048 14336 = true := by decide +kernel
theorem tzC7 : tzL 2048 14336 = true := by decide +kernel
theorem bcC8 : bcL 2048 16384 = true := by decide +kernel
theorem tzC8 : tzL 2048 16384 = true := by decide +kernel
theorem bcC9 : bcL 2048 18432 = true := by decide +kernel
theorem tzC9 : tzL 2048 18432 = true := by decide +kernel
theorem bcC10 : bcL 2048 20480 = true := by decide +kernel
theorem tzC10 : tzL 2048 20480 = true := by decide +kernel
theorem bcC11 : bcL 2048 22528 = true := by decide +kernel
theorem tzC11 : tzL 2048 22528 = true := by decide +kernel
theorem bcC12 : bcL 2048 24576 = true := by decide +kernel
theorem tzC12 : tzL 2048 24576 = true := by decide +kernel
theorem bcC13 : bcL 2048 26624 = true := by decide +kernel
theorem tzC13 : tzL 2048 26624 = true := by decide +kernel
theorem bcC14 : bcL 2048 28672 = true := by decide +kernel
theorem tzC14 : tzL 2048 28672 = true := by decide +kernel
theorem bcC15 : bcL 2048 30720 = true := by decide +kernel
theorem tzC15 : tzL 2048 30720 = true := by decide +kernel
theorem bcC16 : bcL 2048 32768 = true := by decide +kernel
theorem tzC16 : tzL 2048 32768 = true := by decide +kernel
theorem bcC17 : bcL 2048 34816 = true := by decide +kernel
theorem tzC17 : tzL 2048 34816 = true := by decide +kernel
theorem bcC18 : bcL 2048 36864 = true := by decide +kernel
theorem tzC18 : tzL 2048 36864 = true := by decide +kernel
theorem bcC19 : bcL 2048 38912 = true := by decide +kernel
theorem tzC19 : tzL 2048 38912 = true := by decide +kernel
theorem bcC20 : bcL 2048 40960 = true := by decide +kernel
theorem tzC20 : tzL 2048 40960 = true := by decide +kernel
theorem bcC21 : bcL 2048 43008 = true := by decide +kernel
theorem tzC21 : tzL 2048 43008 = true := by decide +kernel
theorem bcC22 : bcL 2048 45056 = true := by decide +kernel
theorem tzC22 : tzL 2048 45056 = true := by decide +kernel
theorem bcC23 : bcL 2048 47104 = true := by decide +kernel
theorem tzC23 : tzL 2048 47104 = true := by decide +kernel
theorem bcC24 : bcL 2048 49152 = true := by decide +kernel
theorem tzC24 : tzL 2048 49152 = true := by decide +kernel
theorem bcC25 : bcL 2048 51200 = true := by decide +kernel
theorem tzC25 : tzL 2048 51200 = true := by decide +kernel
theorem bcC26 : bcL 2048 53248 = true := by decide +kernel
theorem tzC26 : tzL 2048 53248 = true := by decide +kernel
theorem bcC27 : bcL 2048 55296 = true := by decide +kernel
theorem tzC27 : tzL 2048 55296 = true := by decide +kernel
theorem bcC28 : bcL 2048 57344 = true := by decide +kernel
theorem tzC28 : tzL 2048 57344 = true := by decide +kernel
theorem bcC29 : bcL 2048 59392 = true := by decide +kernel
theorem tzC29 : tzL 2048 59392 = true := by decide +kernel
theorem bcC30 : bcL 2048 61440 = true := by decide +kernel
theorem tzC30 : tzL 2048 61440 = true := by decide +kernel
theorem bcC31 : bcL 2048 63488 = true := by decide +kernel
theorem tzC31 : tzL 2048 63488 = true := by decide +kernel
theorem bc_all {m : Nat} (h : m < 65536) : bcN m = pc16 m := by
  have key : bcN m = pcK 16 m 0 := by
    by_cases h16 : m < 32768
    · by_cases h8 : m < 16384
      · by_cases h4 : m < 8192
        · by_cases h2 : m < 4096
          · by_cases h1 : m < 2048
            · exact bcL_ok 2048 0 bcC0 m (by omega) (by omega)
            · exact bcL_ok 2048 2048 bcC1 m (by omega) (by omega)
          · by_cases h3 : m < 6144
            · exact bcL_ok 2048 4096 bcC2 m (by omega) (by omega)
            · exact bcL_ok 2048 6144 bcC3 m (by omega) (by omega)
        · by_cases h6 : m < 12288
          · by_cases h5 : m < 10240
            · exact bcL_ok 2048 8192 bcC4 m (by omega) (by omega)
            · exact bcL_ok 2048 10240 bcC5 m (by omega) (by omega)
          · by_cases h7 : m < 14336
            · exact bcL_ok 2048 12288 bcC6 m (by omega) (by omega)
            · exact bcL_ok 2048 14336 bcC7 m (by omega) (by omega)
      · by_cases h12 : m < 24576
        · by_cases h10 : m < 20480
          · by_cases h9 : m < 18432
            · exact bcL_ok 2048 16384 bcC8 m (by omega) (by omega)
            · exact bcL_ok 2048 18432 bcC9 m (by omega) (by omega)
          · by_cases h11 : m < 22528
            · exact bcL_ok 2048 20480 bcC10 m (by omega) (by omega)
            · exact bcL_ok 2048 22528 bcC11 m (by omega) (by omega)
        · by_cases h14 : m < 28672
          · by_cases h13 : m < 26624
            · exact bcL_ok 2048 24576 bcC12 m (by omega) (by omega)
            · exact bcL_ok 2048 26624 bcC13 m (by omega) (by omega)
          · by_cases h15 : m < 30720
            · exact bcL_ok 2048 28672 bcC14 m (by omega) (by omega)
            · exact bcL_ok 2048 30720 bcC15 m (by omega) (by omega)
    · by_cases h24 : m < 49152
      · by_cases h20 : m < 40960
        · by_cases h18 : m < 36864
          · by_cases h17 : m < 34816
            · exact bcL_ok 2048 32768 bcC16 m (by omega) (by omega)
            · exact bcL_ok 2048 34816 bcC17 m (by omega) (by omega)
          · by_cases h19 : m < 38912
            · exact bcL_ok 2048 36864 bcC18 m (by omega) (by omega)
            · exact bcL_ok 2048 38912 bcC19 m (by omega) (by omega)
        · by_cases h22 : m < 45056
          · by_cases h21 : m < 43008
            · exact bcL_ok 2048 40960 bcC20 m (by omega) (by omega)
            · exact bcL_ok 2048 43008 bcC21 m (by omega) (by omega)
          · by_cases h23 : m < 47104
            · exact bcL_ok 2048 45056 bcC22 m (by omega) (by omega)
            · exact bcL_ok 2048 47104 bcC23 m (by omega) (by omega)
      · by_cases h28 : m < 57344
        · by_cases h26 : m < 53248
          · by_cases h25 : m < 51200
            · exact bcL_ok 2048 49152 bcC24 m (by omega) (by omega)
            · exact bcL_ok 2048 51200 bcC25 m (by omega) (by omega)
          · by_cases h27 : m < 55296
            · exact bcL_ok 2048 53248 bcC26 m (by omega) (by omega)
            · exact bcL_ok 2048 55296 bcC27 m (by omega) (by omega)
        · by_cases h30 : m < 61440
          · by_cases h29 : m < 59392
            · exact bcL_ok 2048 57344 bcC28 m (by omega) (by omega)
            · exact bcL_ok 2048 59392 bcC29 m (by omega) (by omega)
          · by_cases h31 : m < 63488
            · exact bcL_ok 2048 61440 bcC30 m (by omega) (by omega)
            · exact bcL_ok 2048 63488 bcC31 m (by omega) (by omega)
  rw [key, pcK_eq]
  exact Nat.zero_add _
theorem tz_all {m : Nat} (h0 : m ≠ 0) (h : m < 65536) : (m - 1) &&& (65535 ^^^ m) = 2 ^ (tzK 16 m) - 1 := by
  by_cases h16 : m < 32768
  · by_cases h8 : m < 16384
    · by_cases h4 : m < 8192
      · by_cases h2 : m < 4096
        · by_cases h1 : m < 2048
          · exact tzL_ok 2048 1 tzC0 m (by omega) (by omega)
          · exact tzL_ok 2048 2048 tzC1 m (by omega) (by omega)
        · by_cases h3 : m < 6144
          · exact tzL_ok 2048 4096 tzC2 m (by omega) (by omega)
          · exact tzL_ok 2048 6144 tzC3 m (by omega) (by omega)
      · by_cases h6 : m < 12288
        · by_cases h5 : m < 10240
          · exact tzL_ok 2048 8192 tzC4 m (by omega) (by omega)
          · exact tzL_ok 2048 10240 tzC5 m (by omega) (by omega)
        · by_cases h7 : m < 14336
          · exact tzL_ok 2048 12288 tzC6 m (by omega) (by omega)
          · exact tzL_ok 2048 14336 tzC7 m (by omega) (by omega)
    · by_cases h12 : m < 24576
      · by_cases h10 : m < 20480
        · by_cases h9 : m < 18432
          · exact tzL_ok 2048 16384 tzC8 m (by omega) (by omega)
          · exact tzL_ok 2048 18432 tzC9 m (by omega) (by omega)
        · by_cases h11 : m < 22528
          · exact tzL_ok 2048 20480 tzC10 m (by omega) (by omega)
          · exact tzL_ok 2048 22528 tzC11 m (by omega) (by omega)
      · by_cases h14 : m < 28672
        · by_cases h13 : m < 26624
          · exact tzL_ok 2048 24576 tzC12 m (by omega) (by omega)
          · exact tzL_ok 2048 26624 tzC13 m (by omega) (by omega)
        · by_cases h15 : m < 30720
          · exact tzL_ok 2048 28672 tzC14 m (by omega) (by omega)
          · exact tzL_ok 2048 30720 tzC15 m (by omega) (by omega)
  · by_cases h24 : m < 49152
    · by_cases h20 : m < 40960
      · by_cases h18 : m < 36864
        · by_cases h17 : m < 34816
          · exact tzL_ok 2048 32768 tzC16 m (by omega) (by omega)
          · exact tzL_ok 2048 34816 tzC17 m (by omega) (by omega)
        · by_cases h19 : m < 38912
          · exact tzL_ok 2048 36864 tzC18 m (by omega) (by omega)
          · exact tzL_ok 2048 38912 tzC19 m (by omega) (by omega)
      · by_cases h22 : m < 45056
        · by_cases h21 : m < 43008
          · exact tzL_ok 2048 40960 tzC20 m (by omega) (by omega)
          · exact tzL_ok 2048 43008 tzC21 m (by omega) (by omega)
        · by_cases h23 : m < 47104
          · exact tzL_ok 2048 45056 tzC22 m (by omega) (by omega)
          · exact tzL_ok 2048 47104 tzC23 m (by omega) (by omega)
    · by_cases h28 : m < 57344
      · by_cases h26 : m < 53248
        · by_cases h25 : m < 51200
          · exact tzL_ok 2048 49152 tzC24 m (by omega) (by omega)
          · exact tzL_ok 2048 51200 tzC25 m (by omega) (by omega)
        · by_cases h27 : m < 55296
          · exact tzL_ok 2048 53248 tzC26 m (by omega) (by omega)
          · exact tzL_ok 2048 55296 tzC27 m (by omega) (by omega)
      · by_cases h30 : m < 61440
        · by_cases h29 : m < 59392
          · exact tzL_ok 2048 57344 tzC28 m (by omega) (by omega)
          · exact tzL_ok 2048 59392 tzC29 m (by omega) (by omega)
        · by_cases h31 : m < 63488
          · exact tzL_ok 2048 61440 tzC30 m (by omega) (by omega)
          · exact tzL_ok 2048 63488 tzC31 m (by omega) (by omega)
