/-! ===== small things of use everywhere ===== -/
def tI (b : Bool) : Int32 := bif b then 1 else 0
theorem tI_01 (b : Bool) : tI b = 0 ∨ tI b = 1 := by cases b <;> decide
theorem tI_0 {b : Bool} : tI b = 0 ↔ b = false := by cases b <;> decide
theorem tI_n {b : Bool} : ¬ tI b = 0 ↔ b = true := by cases b <;> decide
theorem tI_1 {b : Bool} : tI b = 1 ↔ b = true := by cases b <;> decide
/-- the exact end -/
def ex (v : Value) (h : Hp) : PT := fun r h' => r = some v ∧ h = h'
def exV (h : Hp) : PT := fun r h' => r = none ∧ h = h'
def u1 (h : Hp) (i j : Nat) (x : Int32) : Hp := (up2 h.1 i j x, h.2)
/-- only cells of P change -/
def Fr (P : Nat → Nat → Prop) (h h' : Hp) : Prop := (∀ a b, ¬ P a b → h'.1 a b = h.1 a b) ∧ h'.2 = h.2
theorem Fr.rf {P : Nat → Nat → Prop} {h : Hp} : Fr P h h := ⟨fun _ _ _ => rfl, rfl⟩
theorem Fr.tr {P : Nat → Nat → Prop} {h h1 h2 : Hp} (a : Fr P h h1) (b : Fr P h1 h2) : Fr P h h2 := ⟨fun i j hn => (b.1 i j hn).trans (a.1 i j hn), b.2.trans a.2⟩
theorem Fr.mono {P Q : Nat → Nat → Prop} {h h1 : Hp} (a : Fr P h h1) (hs : ∀ i j, P i j → Q i j) : Fr Q h h1 := ⟨fun i j hn => a.1 i j (fun hp => hn (hs i j hp)), a.2⟩
theorem Fr.up {P : Nat → Nat → Prop} {h h1 : Hp} {i j : Nat} {x : Int32} (a : Fr P h h1) (hp : P i j) : Fr P h (up2 h1.1 i j x, h1.2) := ⟨fun a' b' hn => by
  show up2 h1.1 i j x a' b' = _
  unfold up2
  rw [if_neg (fun h => hn (by rw [h.1, h.2]; exact hp))]
  exact a.1 a' b' hn, a.2⟩
theorem ne_le {a b : Int32} (h : ¬ a ≤ b) : b < a := by
  rw [Int32.le_iff_toInt_le] at h
  rw [Int32.lt_iff_toInt_lt]
  omega
theorem wide_le (a b : Int32) : a.toInt64 ≤ b.toInt64 ↔ a ≤ b := by rw [Int64.le_iff_toInt_le, Int32.le_iff_toInt_le, Int32.toInt_toInt64, Int32.toInt_toInt64]
theorem wide_lt (a b : Int32) : a.toInt64 < b.toInt64 ↔ a < b := by rw [Int64.lt_iff_toInt_lt, Int32.lt_iff_toInt_lt, Int32.toInt_toInt64, Int32.toInt_toInt64]
/-! ===== the reference: its small methods ===== -/
theorem ct_M_in (x lo hi : Int64) (h : Hp) : Ct 0 md_M_in [.long x, .long lo, .long hi] h (ex (.int (tI (decide (lo ≤ x) && decide (x ≤ hi)))) h) := by
  refine Ct_of 7 rfl rfl rfl (fun X C => ?_)
  refine V_go C tk_M_in [] 32 ?_
  refine And.intro (fun c3 => ?_) (fun c3 => ?_)
  · exact ⟨by decide, by rw [lg_cmp_lt] at c3; rw [decide_eq_false (Int64.not_le.mpr c3)]; rfl, rfl⟩
  · refine And.intro (fun c10 => ?_) (fun c10 => ?_)
    · exact ⟨by decide, by rw [lg_cmp_gt] at c10; rw [decide_eq_false (Int64.not_le.mpr c10), Bool.and_false]; rfl, rfl⟩
    · exact ⟨by decide, by rw [lg_cmp_lt] at c3; rw [lg_cmp_gt] at c10; rw [decide_eq_true (Int64.not_lt.mp c3), decide_eq_true (Int64.not_lt.mp c10)]; rfl, rfl⟩
theorem ct_M_in32 (x lo hi : Int32) (h : Hp) : Ct 0 md_M_in [.long x.toInt64, .long lo.toInt64, .long hi.toInt64] h (ex (.int (tI (decide (lo ≤ x) && decide (x ≤ hi)))) h) := by
  have h1 := ct_M_in x.toInt64 lo.toInt64 hi.toInt64 h
  simp only [wide_le] at h1
  exact h1
def onesF (x : Int32) : Nat → Int32
  | 0 => 0
  | k + 1 => onesF x k + ((x >>> (nI k &&& 31)) &&& 1)
theorem ct_M_ones (x : Int32) (h : Hp) : Ct 0 md_M_ones [.int x] h (ex (.int (onesF x 16)) h) := by
  refine Ct_of 7 rfl rfl rfl (fun X C => ?_)
  have loop : ∀ (n i : Nat) (a b : Int32), i + n = 16 → a = onesF x i → b = nI i → V X 4 [some (.int x), some (.int a), some (.int b)] [] h := by
    intro n
    induction n with
    | zero =>
      intro i a b hi ha hb
      obtain rfl : i = 16 := by omega
      subst hb
      refine V_go C tk_M_ones [4] 39 ?_
      refine And.intro (fun c7 => ?_) (fun c7 => ?_)
      · exact ⟨by rw [ha], rfl⟩
      · exact absurd (by decide) c7
    | succ n ih =>
      intro i a b hi ha hb
      subst hb
      refine V_go C tk_M_ones [4] 39 ?_
      refine And.intro (fun c7 => ?_) (fun c7 => ?_)
      · exact absurd c7 (nI_ge (b := 16) (by omega) (by decide))
      · exact ih (i + 1) _ _ (by omega) (by rw [ha]; rfl) (nI_1 i)
  refine V_go C tk_M_ones [4] 39 ?_
  exact loop 16 0 _ _ rfl rfl rfl
def kdB (c : Int32) : Int32 := if c = 108 then 0 else if c = 102 then 1 else if c = 115 then 2 else if c = 105 then 3 else if c = 111 then 4 else -1
theorem ct_M_kindBy (c : Int32) (h : Hp) : Ct 0 md_M_kindBy [.int c] h (ex (.int (kdB c)) h) := by
  refine Ct_of 7 rfl rfl rfl (fun X C => ?_)
  refine V_go C tk_M_kindBy [] 47 ?_
  refine And.intro (fun c3 => ?_) (fun c3 => ?_)
  · refine And.intro (fun c13 => ?_) (fun c13 => ?_)
    · refine And.intro (fun c23 => ?_) (fun c23 => ?_)
      · refine And.intro (fun c33 => ?_) (fun c33 => ?_)
        · refine And.intro (fun c43 => ?_) (fun c43 => ?_)
          · exact ⟨by simp only [kdB, c3, c13, c23, c33, c43, if_false], rfl⟩
          · exact ⟨by rw [c43]; rfl, rfl⟩
        · exact ⟨by rw [c33]; rfl, rfl⟩
      · exact ⟨by rw [c23]; rfl, rfl⟩
    · exact ⟨by rw [c13]; rfl, rfl⟩
  · exact ⟨by rw [c3]; rfl, rfl⟩
theorem ct_M_isFact (f : Int32) (h : Hp) : Ct 1 md_M_isFact [.int f] h (ex (.int (tI (decide (0 ≤ f) && decide (f ≤ 3)))) h) := by
  refine Ct_of 7 rfl rfl rfl (fun X C => ?_)
  refine V_go C tk_M_isFact [] 26 ?_
  refine ⟨_, ⟨_, by decide, (ct_M_in32 f 0 3 h)⟩, fun r6 h6 p6 => ?_⟩
  obtain ⟨rfl, rfl⟩ := p6
  exact ⟨tI_01 _, rfl, rfl⟩
theorem ct_M_isLight (k : Int32) (h : Hp) : Ct 1 md_M_isLight [.ref 73, .int k] h (ex (.int (tI (decide (0 ≤ k) && decide (k ≤ h.1 73 7 - 1)))) h) := by
  refine Ct_of 7 rfl rfl rfl (fun X C => ?_)
  refine V_go C tk_M_isLight [] 30 ?_
  refine ⟨_, ⟨_, by decide, (ct_M_in32 k 0 (h.1 73 7 - 1) h)⟩, fun r10 h10 p10 => ?_⟩
  obtain ⟨rfl, rfl⟩ := p10
  exact ⟨tI_01 _, rfl, rfl⟩
theorem ct_M_lacks (h : Hp) : Ct 0 md_M_lacks [.ref 73] h (ex (.int (tI (decide (h.1 73 7 = 0)))) h) := by
  refine Ct_of 7 rfl rfl rfl (fun X C => ?_)
  refine V_go C tk_M_lacks [] 27 ?_
  refine And.intro (fun c4 => ?_) (fun c4 => ?_)
  · exact ⟨by decide, by rw [decide_eq_false c4]; rfl, rfl⟩
  · exact ⟨by decide, by rw [decide_eq_true c4]; rfl, rfl⟩
theorem ct_M_isLit {k : Nat} (hk : k < 5) (h : Hp) : Ct 0 md_M_isLit [.ref 73, .int (nI k)] h (ex (.int (tI (decide (h.1 78 k = 0)))) h) := by
  refine Ct_of 7 rfl rfl rfl (fun X C => ?_)
  have hc : (nI k).toNatClampNeg = k := nI_clamp (by omega)
  refine V_go C tk_M_isLit [] 29 ?_
  refine And.intro (vp_in_nI hk (by decide)) ?_
  refine And.intro (fun c6 => ?_) (fun c6 => ?_)
  · exact ⟨by decide, by rw [hc] at c6; rw [decide_eq_false c6]; rfl, rfl⟩
  · exact ⟨by decide, by rw [hc] at c6; rw [decide_eq_true c6]; rfl, rfl⟩
def isT (w f : Int32) (t : Int32) : Bool := (decide (((w >>> (f &&& 31)) &&& 1) = 1)) != decide (t = 1)
theorem ct_M_isTrue (w f : Int32) (t : Bool) (h : Hp) : Ct 0 md_M_isTrue [.int w, .int f, .int (tI t)] h (ex (.int (tI (decide (((w >>> (f &&& 31)) &&& 1) = 1) != t))) h) := by
  refine Ct_of 7 rfl rfl rfl (fun X C => ?_)
  refine V_go C tk_M_isTrue [] 36 ?_
  refine And.intro (fun c6 => ?_) (fun c6 => ?_)
  · refine And.intro (fun c15 => ?_) (fun c15 => ?_)
    · exact ⟨by decide, by rw [decide_eq_false c6]; rw [eq_comm, tI_0] at c15; rw [c15]; rfl, rfl⟩
    · exact ⟨by decide, by rw [decide_eq_false c6]; rw [eq_comm, tI_n] at c15; rw [c15]; rfl, rfl⟩
  · refine And.intro (fun c15 => ?_) (fun c15 => ?_)
    · exact ⟨by decide, by rw [decide_eq_true c6]; rw [eq_comm, tI_1] at c15; rw [c15]; rfl, rfl⟩
    · exact ⟨by decide, by rw [decide_eq_true c6]; rw [eq_comm, tI_1] at c15; rw [eq_false_of_ne_true c15]; rfl, rfl⟩
/-- what a light of a kind says -/
def sayF (kd : Int32) (t : Bool) (br : Int32) : Bool := decide (kd = 1) || (t != (decide (kd = 3) || (decide (kd = 4) && decide (br - br / 2 * 2 = 0))))
theorem ct_M_says (kd : Int32) (t : Bool) (br : Int32) (h : Hp) : Ct 0 md_M_says [.int kd, .int (tI t), .int br] h (ex (.int (tI (sayF kd t br))) h) := by
  refine Ct_of 7 rfl rfl rfl (fun X C => ?_)
  refine V_go C tk_M_says [] 44 ?_
  refine And.intro (fun c2 => ?_) (fun c2 => ?_)
  · refine And.intro (fun c24 => ?_) (fun c24 => ?_)
    · exact ⟨by decide, by cases t <;> simp_all [sayF, tI], rfl⟩
    · refine And.intro (fun c29 => ?_) (fun c29 => ?_)
      · exact ⟨by decide, by cases t <;> simp_all [sayF, tI], rfl⟩
      · exact ⟨by decide, by cases t <;> simp_all [sayF, tI], rfl⟩
  · refine And.intro (fun c7 => ?_) (fun c7 => ?_)
    · refine And.intro (fun c24 => ?_) (fun c24 => ?_)
      · exact ⟨by decide, by cases t <;> simp_all [sayF, tI], rfl⟩
      · refine And.intro (fun c29 => ?_) (fun c29 => ?_)
        · exact ⟨by decide, by cases t <;> simp_all [sayF, tI], rfl⟩
        · exact ⟨by decide, by cases t <;> simp_all [sayF, tI], rfl⟩
    · refine And.intro (by decide) ?_
      refine And.intro (fun c13 => ?_) (fun c13 => ?_)
      · refine And.intro (fun c24 => ?_) (fun c24 => ?_)
        · exact ⟨by decide, by cases t <;> simp_all [sayF, tI], rfl⟩
        · refine And.intro (fun c29 => ?_) (fun c29 => ?_)
          · exact ⟨by decide, by cases t <;> simp_all [sayF, tI], rfl⟩
          · exact ⟨by decide, by cases t <;> simp_all [sayF, tI], rfl⟩
      · refine And.intro (fun c24 => ?_) (fun c24 => ?_)
        · exact ⟨by decide, by cases t <;> simp_all [sayF, tI], rfl⟩
        · refine And.intro (fun c29 => ?_) (fun c29 => ?_)
          · exact ⟨by decide, by cases t <;> simp_all [sayF, tI], rfl⟩
          · exact ⟨by decide, by cases t <;> simp_all [sayF, tI], rfl⟩
