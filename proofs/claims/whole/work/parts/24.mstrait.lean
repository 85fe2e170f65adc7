/-! ===== a page that is a strait ===== -/
theorem okE_ne {d : Nat} {c : Int32} (h : okE d c = true) : ¬ c = 59 := by
  unfold okE at h
  split at h
  · exact dgt_ne h
  · split at h
    · exact dgt1_ne h
    · cases h
theorem ff_some (pg : Nat → Int32) : ∀ (n j i : Nat), (ffF pg n j (some i)).1 = j + n → (ffF pg n j (some i)).2 = some i ∧ ∀ t, j ≤ t → t < j + n → okE (t - i) (pg t) = true
  | 0, j, i, _ => ⟨rfl, fun t h1 h2 => by omega⟩
  | n + 1, j, i, h => by
    have e : ffF pg (n + 1) j (some i) = if fitF (some i) j (pg j) then ffF pg n (j + 1) (nxM (some i) j (pg j)) else (j, some i) := rfl
    rw [e] at h ⊢
    cases hf : fitF (some i) j (pg j) with
    | false =>
      rw [hf] at h
      have : j = j + (n + 1) := h
      omega
    | true =>
      rw [hf] at h
      have hf' : okE (j - i) (pg j) = true := hf
      have hn : nxM (some i) j (pg j) = some i := by unfold nxM; rw [if_neg (okE_ne hf')]
      rw [hn] at h ⊢
      have h' : (ffF pg n (j + 1) (some i)).1 = j + 1 + n := by
        have h2 : (ffF pg n (j + 1) (some i)).1 = j + (n + 1) := h
        omega
      obtain ⟨g1, g2⟩ := ff_some pg n (j + 1) i h'
      refine ⟨g1, fun t h1 h2 => ?_⟩
      by_cases ht : t = j
      · subst ht
        exact hf'
      · exact g2 t (by omega) (by omega)
theorem ff_none (pg : Nat → Int32) : ∀ (n j : Nat), (ffF pg n j none).1 = j + n → ((ffF pg n j none).2 = none ∧ ∀ t, j ≤ t → t < j + n → okL t (pg t) = true ∧ ¬ pg t = 59) ∨ ∃ i, (ffF pg n j none).2 = some i ∧ j ≤ i ∧ i < j + n ∧ pg i = 59 ∧ (∀ t, j ≤ t → t ≤ i → okL t (pg t) = true) ∧ (∀ t, j ≤ t → t < i → ¬ pg t = 59) ∧ ∀ t, i < t → t < j + n → okE (t - i) (pg t) = true
  | 0, j, _ => Or.inl ⟨rfl, fun t h1 h2 => by omega⟩
  | n + 1, j, h => by
    have e : ffF pg (n + 1) j none = if fitF none j (pg j) then ffF pg n (j + 1) (nxM none j (pg j)) else (j, none) := rfl
    rw [e] at h ⊢
    cases hf : fitF none j (pg j) with
    | false =>
      rw [hf] at h
      have : j = j + (n + 1) := h
      omega
    | true =>
      rw [hf] at h
      have hf' : okL j (pg j) = true := hf
      by_cases h59 : pg j = 59
      · have hn : nxM none j (pg j) = some j := by unfold nxM; rw [if_pos h59]
        rw [hn] at h ⊢
        have h' : (ffF pg n (j + 1) (some j)).1 = j + 1 + n := by
          have h2 : (ffF pg n (j + 1) (some j)).1 = j + (n + 1) := h
          omega
        obtain ⟨g1, g2⟩ := ff_some pg n (j + 1) j h'
        refine Or.inr ⟨j, g1, Nat.le_refl j, by omega, h59, fun t h1 h2 => ?_, fun t h1 h2 => by omega, fun t h1 h2 => g2 t (by omega) (by omega)⟩
        obtain rfl : t = j := by omega
        exact hf'
      · have hn : nxM none j (pg j) = none := by unfold nxM; rw [if_neg h59]
        rw [hn] at h ⊢
        have h' : (ffF pg n (j + 1) none).1 = j + 1 + n := by
          have h2 : (ffF pg n (j + 1) none).1 = j + (n + 1) := h
          omega
        rcases ff_none pg n (j + 1) h' with ⟨g1, g2⟩ | ⟨i, g1, g2, g3, g4, g5, g6, g7⟩
        · refine Or.inl ⟨g1, fun t h1 h2 => ?_⟩
          by_cases ht : t = j
          · subst ht
            exact ⟨hf', h59⟩
          · exact g2 t (by omega) (by omega)
        · refine Or.inr ⟨i, g1, by omega, by omega, g4, fun t h1 h2 => ?_, fun t h1 h2 => ?_, fun t h1 h2 => g7 t h1 (by omega)⟩
          · by_cases ht : t = j
            · subst ht
              exact hf'
            · exact g5 t (by omega) h2
          · by_cases ht : t = j
            · subst ht
              exact h59
            · exact g6 t (by omega) h2
/-- the page is a strait -/
def stOk (p : Nat) (pg : Nat → Int32) : Bool := decide ((ffF pg p 0 none).1 = p) && (match (ffF pg p 0 none).2 with
  | some i => decide (p = i + 3)
  | none => false)
def dig (c : Int32) : Nat := (c - 48).toNatClampNeg
def kdN (c : Int32) : Nat := (kdB c).toNatClampNeg
def stK (p : Nat) (pg : Nat → Int32) : KF := ((p - 2) / 3, dig (pg (p - 2)), dig (pg (p - 1)), fun k => dig (pg (3 * k + 1)), fun k => kdN (pg (3 * k)), 0, fun _ => 0)
def stA : AS := (fun _ => 0, fun _ => 0, fun _ => 0, 0)
theorem dig_t {c : Int32} (h : dgt c = true) : c - 48 = nI (dig c) ∧ dig c ≤ 9 := by
  unfold dgt at h
  rw [Bool.and_eq_true, decide_eq_true_iff, decide_eq_true_iff, Int32.le_iff_toInt_le, Int32.le_iff_toInt_le] at h
  rw [show (48 : Int32).toInt = 48 from rfl, show (57 : Int32).toInt = 57 from rfl] at h
  have e : (c - 48).toInt = c.toInt - 48 := by
    rw [Int32.toInt_sub, show (48 : Int32).toInt = 48 from rfl]
    exact Int.bmod_eq_of_le (by omega) (by omega)
  have e2 : dig c = (c.toInt - 48).toNat := by
    unfold dig
    rw [← e]
    rfl
  refine ⟨?_, by omega⟩
  rw [e2, ← ofInt_nat, Int.toNat_of_nonneg (by omega), ← e]
  exact (Int32.ofInt_toInt _).symm
theorem dgt1_t {c : Int32} (h : dgt1 c = true) : dgt c = true := by
  unfold dgt1 at h
  unfold dgt
  rw [Bool.and_eq_true, decide_eq_true_iff, decide_eq_true_iff, Int32.le_iff_toInt_le, Int32.le_iff_toInt_le] at h ⊢
  rw [show (49 : Int32).toInt = 49 from rfl] at h
  rw [show (48 : Int32).toInt = 48 from rfl]
  omega
theorem kd_t {c : Int32} (h : ¬ kdB c = -1) : kdB c = nI (kdN c) ∧ kdN c < 5 := by
  unfold kdN kdB at *
  split at h
  · rename_i e; simp only [e]; exact ⟨rfl, by decide⟩
  · split at h
    · rename_i e1 e; simp only [e]; exact ⟨rfl, by decide⟩
    · split at h
      · rename_i e1 e2 e; simp only [e]; exact ⟨rfl, by decide⟩
      · split at h
        · rename_i e1 e2 e3 e; simp only [e]; exact ⟨rfl, by decide⟩
        · split at h
          · rename_i e1 e2 e3 e4 e; simp only [e]; exact ⟨rfl, by decide⟩
          · exact absurd rfl h
/-- what a page that is a strait has -/
theorem st_facts {p : Nat} {pg : Nat → Int32} (h : stOk p pg = true) (hp : p ≤ 18) : ∃ i, (ffF pg p 0 none) = (p, some i) ∧ p = i + 3 ∧ i % 3 = 2 ∧ 5 ≤ i ∧ i ≤ 14 ∧ pg i = 59 ∧ (∀ k, k < (p - 2) / 3 → ¬ kdB (pg (3 * k)) = -1 ∧ dgt (pg (3 * k + 1)) = true) ∧ dgt (pg (p - 2)) = true ∧ dgt1 (pg (p - 1)) = true ∧ 2 ≤ (p - 2) / 3 ∧ (p - 2) / 3 ≤ 5 := by
  unfold stOk at h
  rw [Bool.and_eq_true, decide_eq_true_iff] at h
  obtain ⟨h1, h2⟩ := h
  rcases ff_none pg p 0 (by omega) with ⟨g1, -⟩ | ⟨i, g1, g2, g3, g4, g5, g6, g7⟩
  · rw [g1] at h2
    cases h2
  · rw [g1] at h2
    have h3 : p = i + 3 := decide_eq_true_iff.mp h2
    have hi := g5 i (by omega) (Nat.le_refl i)
    rw [g4] at hi
    unfold okL at hi
    have h32 : i % 3 = 2 ∧ 2 ≤ (i + 1) / 3 := by
      split at hi
      · exact absurd hi (by decide)
      · split at hi
        · exact absurd hi (by decide)
        · rw [if_neg (by decide)] at hi
          simp at hi
          omega
    refine ⟨i, Prod.ext h1 g1, h3, h32.1, by omega, by omega, g4, fun k hk => ⟨?_, ?_⟩, ?_, ?_, by omega, by omega⟩
    · have := g5 (3 * k) (by omega) (by omega)
      unfold okL at this
      rw [if_pos (by omega)] at this
      simpa using this
    · have := g5 (3 * k + 1) (by omega) (by omega)
      unfold okL at this
      rw [if_neg (by omega), if_pos (by omega)] at this
      exact this
    · have := g7 (p - 2) (by omega) (by omega)
      unfold okE at this
      rw [if_pos (by omega)] at this
      exact this
    · have := g7 (p - 1) (by omega) (by omega)
      unfold okE at this
      rw [if_neg (by omega), if_pos (by omega)] at this
      exact this
def PSt (a b : Nat) : Prop := PG a b ∨ a = 76 ∨ (a = 73 ∧ (b = 1 ∨ b = 7 ∨ b = 8 ∨ b = 9 ∨ b = 10 ∨ b = 11 ∨ b = 12 ∨ b = 14 ∨ b = 23))
theorem ct_M_straitN {p : Nat} {pg : Nat → Int32} {h : Hp} (hp : RP p pg h) (hok : ∀ j, j < p → ltOk (pg j) = true) (hn : stOk p pg = false) : Ct 3 md_M_strait [.ref 73] h (fun r h' => r = some (.int (-103)) ∧ Fr PG h h') := by
  refine Ct_of 7 rfl rfl rfl (fun X C => ?_)
  have hle : (ffF pg p 0 none).1 ≤ p := by
    have : ∀ (n j : Nat) (mr : Option Nat), (ffF pg n j mr).1 ≤ j + n := by
      intro n
      induction n with
      | zero => intro j mr; exact Nat.le_refl _
      | succ n ih =>
        intro j mr
        show (if fitF mr j (pg j) then ffF pg n (j + 1) (nxM mr j (pg j)) else (j, mr)).1 ≤ _
        split
        · have := ih (j + 1) (nxM mr j (pg j)); omega
        · show j ≤ _; omega
    have := this p 0 none
    omega
  have hp18 := hp.1.2
  refine V_go C tk_M_strait [22, 48] 130 ?_
  refine ⟨_, ⟨_, by decide, (ct_M_faultOf hp hok)⟩, fun r1 h1 p1 => ?_⟩
  obtain ⟨rfl, f1, g1⟩ := p1
  have e1 : h1.1 73 1 = nI p := by rw [f1.1 73 1 (by unfold PG; omega)]; exact hp.1.1
  refine And.intro (fun c8 => ?_) (fun c8 => ?_)
  · exact ⟨rfl, f1⟩
  · refine And.intro (fun c16 => ?_) (fun c16 => ?_)
    · exfalso
      rw [e1] at c8
      have hf : (ffF pg p 0 none).1 = p := Nat.le_antisymm hle (Nat.le_of_not_lt (fun h9 => c8 (nI_lt h9 (by omega))))
      obtain ⟨g2, g3⟩ := g1 hf
      unfold stOk at hn
      rw [decide_eq_true hf, Bool.true_and] at hn
      have g4 := g2.1
      rw [c16] at g4
      rcases hm : (ffF pg p 0 none).2 with _ | i
      · rw [hm] at g4
        have h5 : (5 : Int32) = nI (p % 3) := g4
        have h6 : 5 = p % 3 := nI_inj (by omega) (by omega) h5
        omega
      · rw [hm] at g4 hn g3
        have h5 : (5 : Int32) = nI (2 + (p - i)) := g4
        have h6 : 5 = 2 + (p - i) := nI_inj (by omega) (by omega) h5
        have hn' : ¬ p = i + 3 := decide_eq_false_iff_not.mp hn
        omega
    · exact ⟨rfl, f1⟩
theorem ct_M_strait {p : Nat} {pg : Nat → Int32} {h : Hp} (hp : RP p pg h) (hok : ∀ j, j < p → ltOk (pg j) = true) (hn : stOk p pg = true) : Ct 3 md_M_strait [.ref 73] h (fun r h' => r = some (.int (nI ((p - 2) / 3))) ∧ RN (stK p pg) stA (fun _ => 0) (fun _ => 0) 0 h' ∧ h'.1 73 23 = 0 ∧ h'.1 73 1 = 0 ∧ h'.1 73 12 = h.1 73 12 + 1 ∧ Fr PSt h h') := by
  refine Ct_of 7 rfl rfl rfl (fun X C => ?_)
  have hp18 := hp.1.2
  obtain ⟨i, e0, e1, e2, e3, e4, e5, e6, e7, e8, e9, e10⟩ := st_facts hn hp18
  have hff : (ffF pg p 0 none).1 = p := by rw [e0]
  have hmm : (ffF pg p 0 none).2 = some i := by rw [e0]
  have hl3 : (i + 1) / 3 = (p - 2) / 3 := by omega
  have loop : ∀ (n k : Nat) (b : Int32) (hh : Hp), k + n = (p - 2) / 3 → b = nI k → hh.1 73 7 = nI ((p - 2) / 3) → hh.1 73 8 = nI (dig (pg (p - 2))) → hh.1 73 9 = nI (dig (pg (p - 1))) → hh.1 73 12 = h.1 73 12 → (∀ q, q < (p - 2) / 3 → hh.1 75 (2 * q) = kdB (pg (3 * q)) ∧ hh.1 75 (2 * q + 1) = pg (3 * q + 1) - 48) → (∀ q, q < k → hh.1 76 (5 * q + 0) = nI (kdN (pg (3 * q))) ∧ hh.1 76 (5 * q + 1) = nI (dig (pg (3 * q + 1))) ∧ hh.1 76 (5 * q + 2) = 0 ∧ hh.1 76 (5 * q + 3) = 0 ∧ hh.1 76 (5 * q + 4) = 0) → Fr PSt h hh → V X 48 [some (.ref 73), some (.int b)] [] hh := by
    intro n
    induction n with
    | zero =>
      intro k b hh hk hb s7 s8 s9 s12 hrd hrw hf
      subst hb
      refine V_go C tk_M_strait [48] 130 ?_
      refine And.intro (fun c53 => ?_) (fun c53 => ?_)
      · refine ⟨by simp [up2]; exact s7, ⟨⟨⟨by simp [up2]; exact s7, e10⟩, ⟨by simp [up2]; exact s8, (dig_t e7).2⟩, ⟨by simp [up2]; exact s9, (dig_t (dgt1_t e8)).2⟩, fun q hq => ?_, ⟨by simp [up2]; rfl, Nat.zero_le 3⟩, fun s hs => absurd hs (Nat.not_lt_zero s)⟩, ⟨fun q hq => ⟨?_, Nat.zero_le 9⟩, fun s hs => absurd hs (Nat.not_lt_zero s), by simp [up2]; rfl⟩, fun q hq => ?_, by simp [up2]; rfl, by decide⟩, by simp [up2], by simp [up2], by simp [up2]; exact s12, (((((hf.up (by unfold PSt; omega)).up (by unfold PSt; omega)).up (by unfold PSt; omega)).up (by unfold PSt; omega)).up (by unfold PSt; omega)).up (by unfold PSt; omega)⟩
        · have hq' : q < (p - 2) / 3 := hq
          have := hrw q (by omega)
          simp [up2]
          exact ⟨this.1, (kd_t (e6 q hq').1).2, this.2.1, Nat.lt_succ_of_le (dig_t (e6 q hq').2).2⟩
        · have hq' : q < (p - 2) / 3 := hq
          have := hrw q (by omega)
          simp [up2]
          exact this.2.2.1
        · have hq' : q < (p - 2) / 3 := hq
          have := hrw q (by omega)
          simp [up2]
          exact this.2.2.2
      · exact absurd (nle (by rw [s7]; congr 1; omega)) c53
    | succ n ih =>
      intro k b hh hk hb s7 s8 s9 s12 hrd hrw hf
      subst hb
      have hk5 : k < (p - 2) / 3 := by omega
      have i0 : ((5 : Int32) * nI k).toNatClampNeg = 5 * k := ix0c 5 k (by omega)
      have i1 : ((5 : Int32) * nI k + 1).toNatClampNeg = 5 * k + 1 := ixc 5 1 k (by omega)
      have i2 : ((5 : Int32) * nI k + 2).toNatClampNeg = 5 * k + 2 := ixc 5 2 k (by omega)
      have i3 : ((5 : Int32) * nI k + 3).toNatClampNeg = 5 * k + 3 := ixc 5 3 k (by omega)
      have i4 : ((5 : Int32) * nI k + 4).toNatClampNeg = 5 * k + 4 := ixc 5 4 k (by omega)
      have j0 : ((2 : Int32) * nI k).toNatClampNeg = 2 * k := ix0c 2 k (by omega)
      have j1 : ((2 : Int32) * nI k + 1).toNatClampNeg = 2 * k + 1 := ixc 2 1 k (by omega)
      obtain ⟨q1, q2⟩ := hrd k hk5
      have q1' : hh.1 75 (2 * k) = nI (kdN (pg (3 * k))) := by rw [q1]; exact (kd_t (e6 k hk5).1).1
      have q2' : hh.1 75 (2 * k + 1) = nI (dig (pg (3 * k + 1))) := by rw [q2]; exact (dig_t (e6 k hk5).2).1
      refine V_go C tk_M_strait [48] 130 ?_
      refine And.intro (fun c53 => ?_) (fun c53 => ?_)
      · exact absurd c53 (nge (by omega) (by omega) s7)
      · refine And.intro ((ix0in 2 k 10 (by omega) (by decide))) ?_
        refine And.intro ((ix0in 5 k 25 (by omega) (by decide))) ?_
        refine And.intro ((ixin 2 1 k 10 (by omega) (by decide))) ?_
        refine And.intro ((ixin 5 1 k 25 (by omega) (by decide))) ?_
        refine And.intro ((ixin 5 2 k 25 (by omega) (by decide))) ?_
        refine And.intro ((ixin 5 3 k 25 (by omega) (by decide))) ?_
        refine And.intro ((ixin 5 4 k 25 (by omega) (by decide))) ?_
        rw [i0, i1, i2, i3, i4, j0, j1]
        refine ih (k + 1) _ _ (by omega) (nI_1 k) (by simp [up2]; exact s7) (by simp [up2]; exact s8) (by simp [up2]; exact s9) (by simp [up2]; exact s12) (fun q hq => by have := hrd q hq; simp [up2]; exact this) (fun q hq => ?_) (((((hf.up (by unfold PSt; omega)).up (by unfold PSt; omega)).up (by unfold PSt; omega)).up (by unfold PSt; omega)).up (by unfold PSt; omega))
        by_cases hqk : q = k
        · subst hqk
          simp [up2]
          exact ⟨q1', q2'⟩
        · have h1 : ∀ c d, c < 5 → d < 5 → 5 * q + c ≠ 5 * k + d := fun c d _ _ => by omega
          have n0 : ∀ d, d < 5 → 5 * q ≠ 5 * k + d := fun d _ => by omega
          have n00 : 5 * q ≠ 5 * k := by omega
          have n10 : 5 * q + 1 ≠ 5 * k := by omega
          have n20 : 5 * q + 2 ≠ 5 * k := by omega
          have n30 : 5 * q + 3 ≠ 5 * k := by omega
          have n40 : 5 * q + 4 ≠ 5 * k := by omega
          simp only [up2, Nat.add_zero, n00, n10, n20, n30, n40, n0 1 (by decide), n0 2 (by decide), n0 3 (by decide), n0 4 (by decide), h1 1 1 (by decide) (by decide), h1 1 2 (by decide) (by decide), h1 1 3 (by decide) (by decide), h1 1 4 (by decide) (by decide), h1 2 1 (by decide) (by decide), h1 2 2 (by decide) (by decide), h1 2 3 (by decide) (by decide), h1 2 4 (by decide) (by decide), h1 3 1 (by decide) (by decide), h1 3 2 (by decide) (by decide), h1 3 3 (by decide) (by decide), h1 3 4 (by decide) (by decide), h1 4 1 (by decide) (by decide), h1 4 2 (by decide) (by decide), h1 4 3 (by decide) (by decide), h1 4 4 (by decide) (by decide), and_false, if_false]
          exact hrw q (by omega)
  refine V_go C tk_M_strait [48] 130 ?_
  refine ⟨_, ⟨_, by decide, (ct_M_faultOf hp hok)⟩, fun r1 h1 p1 => ?_⟩
  obtain ⟨rfl, f1, g1⟩ := p1
  refine And.intro (fun c8 => ?_) (fun c8 => ?_)
  · rw [hff, f1.1 73 1 (by unfold PG; omega), hp.1.1] at c8; exact absurd c8 (nI_nlt (Nat.le_refl p) (by omega))
  · refine And.intro (fun c16 => ?_) (fun c16 => ?_)
    · obtain ⟨⟨r1, r2, r3, r4, r5⟩, -⟩ := g1 hff
      rw [hmm] at r1 r2 r3 r4 r5
      have r2' : h1.1 73 3 = nI ((p - 2) / 3) := by rw [r2]; show nI ((i + 1) / 3) = _; rw [hl3]
      have r5a := (r5 i rfl).1 (by omega)
      have r5b := (r5 i rfl).2 (by omega)
      rw [show i + 1 = p - 2 by omega, (dig_t e7).1] at r5a
      rw [show i + 2 = p - 1 by omega, (dig_t (dgt1_t e8)).1] at r5b
      refine loop ((p - 2) / 3) 0 _ _ (by omega) rfl (by simp [up2]; exact r2') (by simp [up2]; exact r5a) (by simp [up2]; exact r5b) (by simp [up2]; exact f1.1 73 12 (by unfold PG; omega)) (fun q hq => ?_) (fun q hq => absurd hq (by omega)) ((((f1.mono (Q := PSt) (fun _ _ h9 => Or.inl h9)).up (by unfold PSt; omega)).up (by unfold PSt; omega)).up (by unfold PSt; omega))
      simp [up2]
      exact ⟨r3 q (by show 3 * q < i; omega), r4 q (by show 3 * q + 1 < i; omega)⟩
    · obtain ⟨g2, -⟩ := g1 hff; rw [hmm] at g2; exact absurd (g2.1.trans (show nI (2 + (p - i)) = 5 by rw [show 2 + (p - i) = 5 by omega]; rfl)) c16
