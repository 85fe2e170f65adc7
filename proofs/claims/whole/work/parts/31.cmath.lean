/-! ===== the class's night: one ship's way ===== -/
theorem cnt_0 {p : Nat → Bool} : ∀ {n : Nat}, cnt p n = 0 ↔ ∀ k, k < n → p k = false
  | 0 => ⟨fun _ k hk => absurd hk (Nat.not_lt_zero k), fun _ => rfl⟩
  | n + 1 => by
    have ih := cnt_0 (p := p) (n := n)
    have e : cnt p (n + 1) = cnt p n + (bif p n then 1 else 0) := rfl
    rw [e]
    constructor
    · intro h k hk
      have h1 : cnt p n = 0 := by omega
      by_cases hkn : k = n
      · subst hkn
        cases hp : p k with
        | false => rfl
        | true => rw [hp] at h; simp at h
      · exact ih.mp h1 k (by omega)
    · intro h
      rw [h n (Nat.lt_succ_self n), ih.mpr (fun k hk => h k (Nat.lt_succ_of_lt hk))]
      rfl
theorem cnt_add {p q r : Nat → Bool} : ∀ {n : Nat}, (∀ k, k < n → (bif p k then 1 else 0) + (bif q k then 1 else 0) = (bif r k then 1 else 0)) → cnt p n + cnt q n = cnt r n
  | 0, _ => rfl
  | n + 1, h => by
    have ih := cnt_add (p := p) (q := q) (r := r) (n := n) (fun k hk => h k (Nat.lt_succ_of_lt hk))
    have h1 := h n (Nat.lt_succ_self n)
    show cnt p n + (bif p n then 1 else 0) + (cnt q n + (bif q n then 1 else 0)) = cnt r n + (bif r n then 1 else 0)
    omega
theorem cnt_cut {p q : Nat → Bool} {L : Nat} : ∀ {n : Nat}, L ≤ n → (∀ k, k < n → p k = (decide (k < L) && q k)) → cnt p n = cnt q L
  | 0, h, _ => by
    obtain rfl : L = 0 := by omega
    rfl
  | n + 1, h, hp => by
    by_cases hL : L = n + 1
    · subst hL
      refine cnt_congr (fun k hk => ?_)
      rw [hp k hk, decide_eq_true hk, Bool.true_and]
    · show cnt p n + (bif p n then 1 else 0) = _
      rw [cnt_cut (by omega) (fun k hk => hp k (by omega)), hp n (by omega), decide_eq_false (by omega)]
      rfl
/-- lost within so many breaths, for one ship -/
def lp (K : KF) (s : Nat) : Nat → AS → Bool
  | 0, _ => false
  | j + 1, A => if newQ K A s = 1 then false else if newQ K A s = 2 then true else lp K s j (stepA K A)
theorem newQ_3 (K : KF) (A : AS) (s : Nat) (h : aQ A s = 0) : newQ K A s = 0 ∨ newQ K A s = 1 ∨ newQ K A s = 2 := by
  have := newQ_le K A (s := s) (by omega)
  omega
theorem lostIn_lp (K : KF) : ∀ (j : Nat) (A : AS), lostIn K j A = cnt (fun s => decide (aQ A s = 0) && lp K s j A) (kN K)
  | 0, A => by
    refine (cnt_0.mpr (fun k _ => ?_)).symm
    exact Bool.and_false _
  | j + 1, A => by
    show lostN K A + lostIn K j (stepA K A) = _
    rw [lostIn_lp K j (stepA K A)]
    refine cnt_add (fun s _ => ?_)
    have e1 : aQ (stepA K A) s = newQ K A s := rfl
    rw [e1]
    show (bif decide (aQ A s = 0) && decide (newQ K A s = 2) then 1 else 0) + (bif decide (newQ K A s = 0) && lp K s j (stepA K A) then 1 else 0) = (bif decide (aQ A s = 0) && (if newQ K A s = 1 then false else if newQ K A s = 2 then true else lp K s j (stepA K A)) then 1 else 0)
    by_cases hq : aQ A s = 0
    · rcases newQ_3 K A s hq with h9 | h9 | h9
      · rw [h9]; simp [hq]
      · rw [h9]; simp [hq]
      · rw [h9]; simp [hq]
    · have hn : newQ K A s = aQ A s := by unfold newQ; rw [if_neg hq]
      rw [hn]
      simp [hq]
def lnB (K : KF) (A : AS) : Nat := msk (litA A) (kL K)
theorem lnB_lt (K : KF) (A : AS) (h : kL K ≤ 5) : lnB K A < 32 := Nat.lt_of_lt_of_le (msk_lt _ _) (Nat.pow_le_pow_right (n := 2) (i := kL K) (j := 5) (by decide) h)
theorem shN_lt (K : KF) (x : Nat) (h : kL K ≤ 5) : shN' K x < 32 := Nat.lt_of_lt_of_le (msk_lt _ _) (Nat.pow_le_pow_right (n := 2) (i := kL K) (j := 5) (by decide) h)
/-- what shines there, by bits -/
theorem sh_bits (K : KF) (B : AS) (x m : Nat) (hm : ∀ k, k < kL K → m.testBit k = litA B k) (k : Nat) : (shN' K x &&& m).testBit k = (decide (k < kL K) && (litA B k && near K k x)) := by
  rw [Nat.testBit_and]
  unfold shN'
  rw [msk_bit]
  by_cases hk : k < kL K
  · rw [hm k hk, decide_eq_true hk, Bool.true_and, Bool.true_and, Bool.and_comm]
  · rw [decide_eq_false hk, Bool.false_and, Bool.false_and]
    rfl
theorem sh_pc (K : KF) (B : AS) (x m : Nat) (hL : kL K ≤ 5) (hm : ∀ k, k < kL K → m.testBit k = litA B k) : pc16 (shN' K x &&& m) = shine K B x := by
  unfold pc16 shine
  exact cnt_cut (by omega) (fun k _ => sh_bits K B x m hm k)
theorem sh_0 (K : KF) (B : AS) (x m : Nat) (hm : ∀ k, k < kL K → m.testBit k = litA B k) : shN' K x &&& m = 0 ↔ shine K B x = 0 := by
  unfold shine
  rw [cnt_0]
  constructor
  · intro h k hk
    have := sh_bits K B x m hm k
    rw [h, Nat.zero_testBit, decide_eq_true hk, Bool.true_and] at this
    exact this.symm
  · intro h
    apply Nat.eq_of_testBit_eq
    intro k
    rw [sh_bits K B x m hm k, Nat.zero_testBit]
    by_cases hk : k < kL K
    · rw [h k hk, Bool.and_false]
    · rw [decide_eq_false hk, Bool.false_and]
theorem lnB_bit (K : KF) (A : AS) (k : Nat) (hk : k < kL K) : (lnB K A).testBit k = litA A k := by
  unfold lnB
  rw [msk_bit, decide_eq_true hk, Bool.true_and]
theorem nI_lt' {a b : Nat} (ha : a < 1000000) (hb : b < 1000000) : nI a < nI b ↔ a < b := by
  rw [Int32.lt_iff_toInt_lt, nI_toI ha, nI_toI hb]
  omega
theorem lit_and {K : KF} {A : AS} {f : Nat → Int32} (hL : kL K ≤ 5) (hf : ∀ k, k < kL K → f k = nI (aD A k) ∧ aD A k ≤ 9) : msk (fun k => decide (f k < 1)) 5 &&& (2 ^ kL K - 1) = lnB K A := by
  apply Nat.eq_of_testBit_eq
  intro k
  rw [Nat.testBit_and, Nat.testBit_two_pow_sub_one]
  unfold lnB
  rw [msk_bit, msk_bit]
  by_cases hk : k < kL K
  · obtain ⟨h1, h2⟩ := hf k hk
    rw [decide_eq_true hk, Bool.true_and, Bool.and_true, decide_eq_true (show k < 5 by omega), Bool.true_and, h1]
    unfold litA
    apply decide_eq_decide.mpr
    have := nI_lt' (a := aD A k) (b := 1) (by omega) (by decide)
    have e : nI 1 = 1 := rfl
    rw [e] at this
    rw [this]
    omega
  · rw [decide_eq_false hk, Bool.and_false, Bool.false_and]
theorem up2_same {S : Nat → Nat → Int32} {i j : Nat} {x : Int32} (h : S i j = x) : up2 S i j x = S := by
  funext a b
  unfold up2
  split
  · rename_i h1
    rw [h1.1, h1.2, h]
  · rfl
/-- ships up to i have gone on; places in cell a, how they are in cell b -/
def GC (a b : Nat) (K : KF) (A : AS) (i : Nat) (hh : Hp) : Prop := ∀ s, s < kN K → (s < i → hh.1 a s = nI (newP K A s) ∧ hh.1 b s = nI (newQ K A s)) ∧ (i ≤ s → hh.1 a s = nI (aP A s) ∧ hh.1 b s = nI (aQ A s))
theorem GC_step {a b : Nat} {K : KF} {A : AS} {i : Nat} {hh : Hp} {w v : Int32} (hab : a ≠ b) (g : GC a b K A i hh) (hw : w = nI (newQ K A i)) (hv : v = nI (newP K A i)) : GC a b K A (i + 1) (up2 (up2 hh.1 b i w) a i v, hh.2) := by
  intro s hs
  obtain ⟨g1, g2⟩ := g s hs
  refine ⟨fun h1 => ?_, fun h1 => ?_⟩
  · by_cases hsi : s = i
    · subst hsi
      simp [up2, Ne.symm hab]
      exact ⟨hv, hw⟩
    · simp [up2, hsi]
      exact g1 (by omega)
  · have hsi : s ≠ i := by omega
    simp [up2, hsi]
    exact g2 (by omega)
theorem GC_same {a b : Nat} {K : KF} {A : AS} {i : Nat} {hh : Hp} (g : GC a b K A i hh) (hi : i < kN K) (hq : ¬ aQ A i = 0) : GC a b K A (i + 1) hh := by
  intro s hs
  obtain ⟨g1, g2⟩ := g s hs
  refine ⟨fun h1 => ?_, fun h1 => g2 (by omega)⟩
  by_cases hsi : s = i
  · subst hsi
    obtain ⟨g3, g4⟩ := g2 (Nat.le_refl s)
    have e1 : newQ K A s = aQ A s := by unfold newQ; rw [if_neg hq]
    have e2 : newP K A s = aP A s := by unfold newP; rw [if_neg (fun h9 => hq h9.1)]
    rw [e1, e2]
    exact ⟨g3, g4⟩
  · exact g1 (by omega)
