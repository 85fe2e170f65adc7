/-! ===== the page read as a strait ===== -/
def dgt (c : Int32) : Bool := decide (48 ≤ c) && decide (c ≤ 57)
def dgt1 (c : Int32) : Bool := decide (49 ≤ c) && decide (c ≤ 57)
def okL (j : Nat) (c : Int32) : Bool := if j % 3 = 0 then !(decide (kdB c = -1)) else if j % 3 = 1 then dgt c else if c = 44 then decide ((j + 1) / 3 < 5) else (decide (c = 59) && decide (2 ≤ (j + 1) / 3))
def okE (d : Nat) (c : Int32) : Bool := if d = 1 then dgt c else if d = 2 then dgt1 c else false
def fitF (mr : Option Nat) (j : Nat) (c : Int32) : Bool := match mr with
  | none => okL j c
  | some i => okE (j - i) c
def nxM (mr : Option Nat) (j : Nat) (c : Int32) : Option Nat := if c = 59 then some j else mr
def ffF (pg : Nat → Int32) : Nat → Nat → Option Nat → Nat × Option Nat
  | 0, j, mr => (j, mr)
  | n + 1, j, mr => if fitF mr j (pg j) then ffF pg n (j + 1) (nxM mr j (pg j)) else (j, mr)
/-- how far the reading is -/
def IV (j : Nat) (mr : Option Nat) : Prop := match mr with
  | none => j ≤ 14
  | some i => i < j ∧ j ≤ i + 3 ∧ i % 3 = 2 ∧ 5 ≤ i ∧ i ≤ 14
theorem lt_in {c : Int32} (h : ltOk c = true) : 1 ≤ c.toInt ∧ c.toInt ≤ 126 := by
  unfold ltOk at h
  rw [Bool.and_eq_true, decide_eq_true_iff, decide_eq_true_iff, Int32.le_iff_toInt_le, Int32.le_iff_toInt_le] at h
  exact h
theorem sub48 {c : Int32} (h : ltOk c = true) : (c - 48).toInt = c.toInt - 48 := by
  have := lt_in h
  rw [Int32.toInt_sub, show (48 : Int32).toInt = 48 from rfl]
  exact Int.bmod_eq_of_le (by omega) (by omega)
theorem in09 {c : Int32} (h : ltOk c = true) : (decide (0 ≤ c - 48) && decide (c - 48 ≤ 9)) = dgt c := by
  unfold dgt
  simp only [Int32.le_iff_toInt_le, sub48 h]
  rw [show (0 : Int32).toInt = 0 from rfl, show (9 : Int32).toInt = 9 from rfl, show (48 : Int32).toInt = 48 from rfl, show (57 : Int32).toInt = 57 from rfl]
  congr 1 <;> (apply decide_eq_decide.mpr; omega)
theorem in19 {c : Int32} (h : ltOk c = true) : (decide (1 ≤ c - 48) && decide (c - 48 ≤ 9)) = dgt1 c := by
  unfold dgt1
  simp only [Int32.le_iff_toInt_le, sub48 h]
  rw [show (1 : Int32).toInt = 1 from rfl, show (9 : Int32).toInt = 9 from rfl, show (49 : Int32).toInt = 49 from rfl, show (57 : Int32).toInt = 57 from rfl]
  congr 1 <;> (apply decide_eq_decide.mpr; omega)
theorem dgt_ne {c : Int32} (h : dgt c = true) : ¬ c = 59 := by
  rintro rfl
  exact absurd h (by decide)
theorem dgt1_ne {c : Int32} (h : dgt1 c = true) : ¬ c = 59 := by
  rintro rfl
  exact absurd h (by decide)
theorem kd_ne {c : Int32} (h : ¬ kdB c = -1) : ¬ c = 59 := by
  rintro rfl
  exact h (by decide)
def PG (a b : Nat) : Prop := a = 75 ∨ (a = 73 ∧ 3 ≤ b ∧ b ≤ 6)
def gSt (j : Nat) (mr : Option Nat) : Nat := match mr with
  | none => j % 3
  | some i => 2 + (j - i)
def gRm (j : Nat) (mr : Option Nat) : Nat := match mr with
  | none => (j + 1) / 3
  | some i => (i + 1) / 3
def gTo (j : Nat) (mr : Option Nat) : Nat := match mr with
  | none => j
  | some i => i
/-- the reference's reader, behind j letters that fit -/
def RG (pg : Nat → Int32) (j : Nat) (mr : Option Nat) (h : Hp) : Prop := h.1 73 6 = nI (gSt j mr) ∧ h.1 73 3 = nI (gRm j mr) ∧ (∀ q, 3 * q < gTo j mr → h.1 75 (2 * q) = kdB (pg (3 * q))) ∧ (∀ q, 3 * q + 1 < gTo j mr → h.1 75 (2 * q + 1) = pg (3 * q + 1) - 48) ∧ ∀ i, mr = some i → (i + 2 ≤ j → h.1 73 4 = pg (i + 1) - 48) ∧ (i + 3 ≤ j → h.1 73 5 = pg (i + 2) - 48)
theorem ct_M_go {pg : Nat → Int32} {j : Nat} {mr : Option Nat} {h : Hp} (hr : RG pg j mr h) (hi : IV j mr) {c : Int32} (hc : c = pg j) (hok : ltOk c = true) : Ct 1 md_M_go [.ref 73, .int c] h (fun r h' => r = some (.int (tI (fitF mr j c))) ∧ Fr PG h h' ∧ (fitF mr j c = true → RG pg (j + 1) (nxM mr j c) h' ∧ IV (j + 1) (nxM mr j c))) := by
  refine Ct_of 7 rfl rfl rfl (fun X C => ?_)
  obtain ⟨r1, r2, r3, r4, r5⟩ := id hr
  match mr, hi, r1, r2, r3, r4, r5, C with
  | none, hi, r1, r2, r3, r4, r5, C =>
    have hj : j ≤ 14 := hi
    have hst : h.1 73 6 = nI (j % 3) := r1
    have hrm : h.1 73 3 = nI ((j + 1) / 3) := r2
    rcases (show j % 3 = 0 ∨ j % 3 = 1 ∨ j % 3 = 2 by omega) with h3 | h3 | h3
    · obtain ⟨q, rfl⟩ : ∃ q, j = 3 * q := ⟨j / 3, by omega⟩
      have hk : (3 * q + 1) / 3 = q := by omega
      rw [hk] at hrm
      have hfit : fitF none (3 * q) c = !(decide (kdB c = -1)) := by show okL (3 * q) c = _; unfold okL; rw [if_pos h3]
      rw [h3] at hst
      have i0 : ((2 : Int32) * h.1 73 3).toNatClampNeg = 2 * q := by rw [hrm]; exact ix0c 2 q (by omega)
      have post : ¬ kdB c = -1 → RG pg (3 * q + 1) (nxM none (3 * q) c) (up2 (up2 h.1 73 6 (h.1 73 6 + 1)) 75 (2 * q) (kdB c), h.2) ∧ IV (3 * q + 1) (nxM none (3 * q) c) := by
        intro hn
        have e : nxM none (3 * q) c = none := by unfold nxM; rw [if_neg (kd_ne hn)]
        rw [e]
        refine ⟨⟨?_, ?_, fun z hz => ?_, fun z hz => ?_, fun i h9 => by cases h9⟩, ?_⟩
        · simp [up2]
          rw [hst]
          show _ = nI ((3 * q + 1) % 3)
          rw [show (3 * q + 1) % 3 = 1 by omega]
          rfl
        · simp [up2]
          rw [hrm]
          show _ = nI ((3 * q + 1 + 1) / 3)
          congr 1
          omega
        · have hz' : 3 * z < 3 * q + 1 := hz
          by_cases hzq : z = q
          · subst hzq
            simp [up2]
            rw [hc]
          · have : 2 * z ≠ 2 * q := by omega
            simp only [up2, this, and_false, if_false, show (75 : Nat) ≠ 73 by decide, false_and]
            exact r3 z (by show 3 * z < 3 * q; omega)
        · have hz' : 3 * z + 1 < 3 * q + 1 := hz
          have : 2 * z + 1 ≠ 2 * q := by omega
          simp only [up2, this, and_false, if_false, show (75 : Nat) ≠ 73 by decide, false_and]
          exact r4 z (by show 3 * z + 1 < 3 * q; omega)
        · show 3 * q + 1 ≤ 14
          omega
      refine V_go C tk_M_go [] 124 ?_
      refine And.intro (fun c21 => ?_) (And.intro (fun c21 => ?_) (And.intro (fun c21 => ?_) (And.intro (fun c21 => ?_) (And.intro (fun c21 => ?_) (And.intro (fun c21 => ?_) trivial)))))
      · exact absurd c21 (by rw [hst]; decide)
      · refine ⟨_, ⟨_, by decide, (ct_M_kindBy c _)⟩, fun r67 h67 p67 => ?_⟩
        obtain ⟨rfl, rfl⟩ := p67
        refine And.intro (by show vp_in ((2 : Int32) * h.1 73 3) 10; rw [hrm]; exact ix0in 2 q 10 (by omega) (by decide)) ?_
        refine ⟨_, ⟨_, by decide, (ct_M_kindBy c _)⟩, fun r72 h72 p72 => ?_⟩
        obtain ⟨rfl, rfl⟩ := p72
        refine And.intro (fun c76 => ?_) (fun c76 => ?_)
        · refine ⟨by decide, by rw [hfit, decide_eq_true c76]; rfl, (Fr.rf.up (by unfold PG; omega)).up (by unfold PG; omega), fun h9 => ?_⟩
          rw [hfit, decide_eq_true c76] at h9
          cases h9
        · refine ⟨by decide, by rw [hfit, decide_eq_false c76]; rfl, (Fr.rf.up (by unfold PG; omega)).up (by unfold PG; omega), fun _ => ?_⟩
          have q9 := post c76
          show RG pg _ _ (up2 (up2 h.1 73 6 (h.1 73 6 + 1)) 75 ((2 : Int32) * h.1 73 3).toNatClampNeg (kdB c), h.2) ∧ _
          rw [i0]
          exact q9
      · rw [hst] at c21; exact absurd c21 (by decide)
      · rw [hst] at c21; exact absurd c21 (by decide)
      · rw [hst] at c21; exact absurd c21 (by decide)
      · rw [hst] at c21; exact absurd c21 (by decide)
    · obtain ⟨q, rfl⟩ : ∃ q, j = 3 * q + 1 := ⟨j / 3, by omega⟩
      have hk : (3 * q + 1 + 1) / 3 = q := by omega
      rw [hk] at hrm
      have hfit : fitF none (3 * q + 1) c = dgt c := by show okL (3 * q + 1) c = _; unfold okL; rw [if_neg (by omega), if_pos h3]
      rw [h3] at hst
      have i0 : ((2 : Int32) * h.1 73 3 + 1).toNatClampNeg = 2 * q + 1 := by rw [hrm]; exact ixc 2 1 q (by omega)
      have post : dgt c = true → RG pg (3 * q + 1 + 1) (nxM none (3 * q + 1) c) (up2 (up2 (up2 h.1 73 6 (h.1 73 6 + 1)) 75 (2 * q + 1) (c - 48)) 73 3 (h.1 73 3 + 1), h.2) ∧ IV (3 * q + 1 + 1) (nxM none (3 * q + 1) c) := by
        intro hn
        have e : nxM none (3 * q + 1) c = none := by unfold nxM; rw [if_neg (dgt_ne hn)]
        rw [e]
        refine ⟨⟨?_, ?_, fun z hz => ?_, fun z hz => ?_, fun i h9 => by cases h9⟩, ?_⟩
        · simp [up2]
          rw [hst]
          show _ = nI ((3 * q + 1 + 1) % 3)
          rw [show (3 * q + 1 + 1) % 3 = 2 by omega]
          rfl
        · simp [up2]
          rw [hrm, nI_1]
          show _ = nI ((3 * q + 1 + 1 + 1) / 3)
          congr 1
          omega
        · have hz' : 3 * z < 3 * q + 1 + 1 := hz
          have : 2 * z ≠ 2 * q + 1 := by omega
          simp only [up2, this, and_false, if_false, show (75 : Nat) ≠ 73 by decide, false_and]
          exact r3 z (by show 3 * z < 3 * q + 1; omega)
        · have hz' : 3 * z + 1 < 3 * q + 1 + 1 := hz
          by_cases hzq : z = q
          · subst hzq
            simp [up2]
            rw [hc]
          · have : 2 * z + 1 ≠ 2 * q + 1 := by omega
            simp only [up2, this, and_false, if_false, show (75 : Nat) ≠ 73 by decide, false_and]
            exact r4 z (by show 3 * z + 1 < 3 * q + 1; omega)
        · show 3 * q + 1 + 1 ≤ 14
          omega
      refine V_go C tk_M_go [] 124 ?_
      refine And.intro (fun c21 => ?_) (And.intro (fun c21 => ?_) (And.intro (fun c21 => ?_) (And.intro (fun c21 => ?_) (And.intro (fun c21 => ?_) (And.intro (fun c21 => ?_) trivial)))))
      · exact absurd c21 (by rw [hst]; decide)
      · rw [hst] at c21; exact absurd c21 (by decide)
      · refine And.intro (by show vp_in ((2 : Int32) * h.1 73 3 + 1) 10; rw [hrm]; exact ixin 2 1 q 10 (by omega) (by decide)) ?_
        refine ⟨_, ⟨_, by decide, (ct_M_in32 (c - 48) 0 9 _)⟩, fun r115 h115 p115 => ?_⟩
        obtain ⟨rfl, rfl⟩ := p115
        refine ⟨tI_01 _, by rw [hfit, in09 hok], ((Fr.rf.up (by unfold PG; omega)).up (by unfold PG; omega)).up (by unfold PG; omega), fun h9 => ?_⟩
        rw [hfit] at h9
        have q9 := post h9
        show RG pg _ _ (up2 (up2 (up2 h.1 73 6 (h.1 73 6 + 1)) 75 ((2 : Int32) * h.1 73 3 + 1).toNatClampNeg (c - 48)) 73 3 (h.1 73 3 + 1), h.2) ∧ _
        rw [i0]
        exact q9
      · rw [hst] at c21; exact absurd c21 (by decide)
      · rw [hst] at c21; exact absurd c21 (by decide)
      · rw [hst] at c21; exact absurd c21 (by decide)
    · obtain ⟨q, rfl⟩ : ∃ q, j = 3 * q + 2 := ⟨j / 3, by omega⟩
      have hk : (3 * q + 2 + 1) / 3 = q + 1 := by omega
      rw [hk] at hrm
      have hfit : fitF none (3 * q + 2) c = if c = 44 then decide (q + 1 < 5) else (decide (c = 59) && decide (2 ≤ q + 1)) := by show okL (3 * q + 2) c = _; unfold okL; rw [if_neg (by omega), if_neg (by omega), hk]
      rw [h3] at hst
      have post : ∀ v : Int32, (c = 44 → v = 0 ∧ q + 1 < 5) → (¬ c = 44 → v = 3 ∧ c = 59 ∧ 2 ≤ q + 1) → RG pg (3 * q + 2 + 1) (nxM none (3 * q + 2) c) (up2 (up2 h.1 73 6 (h.1 73 6 + 1)) 73 6 v, h.2) ∧ IV (3 * q + 2 + 1) (nxM none (3 * q + 2) c) := by
        intro v hv1 hv2
        by_cases h44 : c = 44
        · obtain ⟨rfl, hq⟩ := hv1 h44
          have e : nxM none (3 * q + 2) c = none := by unfold nxM; rw [if_neg (by rw [h44]; decide)]
          rw [e]
          refine ⟨⟨?_, ?_, fun z hz => ?_, fun z hz => ?_, fun i h9 => by cases h9⟩, ?_⟩
          · simp [up2]
            show _ = nI ((3 * q + 2 + 1) % 3)
            rw [show (3 * q + 2 + 1) % 3 = 0 by omega]
            rfl
          · simp [up2]
            rw [hrm]
            show _ = nI ((3 * q + 2 + 1 + 1) / 3)
            congr 1
            omega
          · have hz' : 3 * z < 3 * q + 2 + 1 := hz
            simp [up2]
            exact r3 z (by show 3 * z < 3 * q + 2; omega)
          · have hz' : 3 * z + 1 < 3 * q + 2 + 1 := hz
            simp [up2]
            exact r4 z (by show 3 * z + 1 < 3 * q + 2; omega)
          · show 3 * q + 2 + 1 ≤ 14
            omega
        · obtain ⟨rfl, h59, hq⟩ := hv2 h44
          have e : nxM none (3 * q + 2) c = some (3 * q + 2) := by unfold nxM; rw [if_pos h59]
          rw [e]
          refine ⟨⟨?_, ?_, fun z hz => ?_, fun z hz => ?_, fun i h9 => ?_⟩, ?_⟩
          · simp [up2]
            show _ = nI (2 + (3 * q + 2 + 1 - (3 * q + 2)))
            rw [show 2 + (3 * q + 2 + 1 - (3 * q + 2)) = 3 by omega]
            rfl
          · simp [up2]
            rw [hrm]
            show _ = nI ((3 * q + 2 + 1) / 3)
            congr 1
            omega
          · simp [up2]
            exact r3 z hz
          · simp [up2]
            exact r4 z hz
          · cases h9
            exact ⟨fun h8 => by omega, fun h8 => by omega⟩
          · show 3 * q + 2 < 3 * q + 2 + 1 ∧ 3 * q + 2 + 1 ≤ 3 * q + 2 + 3 ∧ (3 * q + 2) % 3 = 2 ∧ 5 ≤ 3 * q + 2 ∧ 3 * q + 2 ≤ 14
            omega
      have rd : up2 (up2 h.1 73 6 (h.1 73 6 + 1)) 73 6 3 73 3 = nI (q + 1) := by simp [up2]; exact hrm
      have rd0 : up2 (up2 h.1 73 6 (h.1 73 6 + 1)) 73 6 0 73 3 = nI (q + 1) := by simp [up2]; exact hrm
      refine V_go C tk_M_go [] 124 ?_
      refine And.intro (fun c21 => ?_) (And.intro (fun c21 => ?_) (And.intro (fun c21 => ?_) (And.intro (fun c21 => ?_) (And.intro (fun c21 => ?_) (And.intro (fun c21 => ?_) trivial)))))
      · exact absurd c21 (by rw [hst]; decide)
      · rw [hst] at c21; exact absurd c21 (by decide)
      · rw [hst] at c21; exact absurd c21 (by decide)
      · refine And.intro (fun c123 => ?_) (fun c123 => ?_)
        · refine And.intro (fun c137 => ?_) (fun c137 => ?_)
          · refine And.intro (fun c159 => ?_) (fun c159 => ?_)
            · have hf : fitF none (3 * q + 2) c = false := by rw [hfit, if_neg c123, decide_eq_false c159]; rfl
              exact ⟨by decide, by rw [hf]; rfl, (Fr.rf.up (by unfold PG; omega)).up (by unfold PG; omega), fun h9 => by rw [hf] at h9; cases h9⟩
            · refine And.intro (fun c167 => ?_) (fun c167 => ?_)
              · have c167' : nI (q + 1) ≤ 1 := by rw [← rd]; exact c167
                have hq : ¬ 2 ≤ q + 1 := fun h9 => absurd c167' (nI_ge (a := 1) h9 (by omega))
                have hf : fitF none (3 * q + 2) c = false := by rw [hfit, if_neg c123, decide_eq_false hq, Bool.and_false]
                exact ⟨by decide, by rw [hf]; rfl, (Fr.rf.up (by unfold PG; omega)).up (by unfold PG; omega), fun h9 => by rw [hf] at h9; cases h9⟩
              · have c167' : ¬ nI (q + 1) ≤ 1 := by rw [← rd]; exact c167
                have hq : 2 ≤ q + 1 := Nat.lt_of_not_le (fun h9 => c167' (nI_le (b := 1) h9 (by decide)))
                have hf : fitF none (3 * q + 2) c = true := by rw [hfit, if_neg c123, decide_eq_true c159, decide_eq_true hq]; rfl
                exact ⟨by decide, by rw [hf]; rfl, (Fr.rf.up (by unfold PG; omega)).up (by unfold PG; omega), fun _ => post 3 (fun h9 => absurd h9 c123) (fun _ => ⟨rfl, c159, hq⟩)⟩
          · refine And.intro (fun c145 => ?_) (fun c145 => ?_)
            · exact absurd c137 c123
            · exact absurd c137 c123
        · refine And.intro (fun c137 => ?_) (fun c137 => ?_)
          · refine And.intro (fun c159 => ?_) (fun c159 => ?_)
            · exact absurd c123 c137
            · refine And.intro (fun c167 => ?_) (fun c167 => ?_)
              · exact absurd c123 c137
              · exact absurd c123 c137
          · refine And.intro (fun c145 => ?_) (fun c145 => ?_)
            · have c145' : 5 ≤ nI (q + 1) := by rw [← rd0]; exact c145
              have hq : ¬ q + 1 < 5 := fun h9 => absurd c145' (nI_ge (b := 5) h9 (by decide))
              have hf : fitF none (3 * q + 2) c = false := by rw [hfit, if_pos c123, decide_eq_false hq]
              exact ⟨by decide, by rw [hf]; rfl, (Fr.rf.up (by unfold PG; omega)).up (by unfold PG; omega), fun h9 => by rw [hf] at h9; cases h9⟩
            · have c145' : ¬ 5 ≤ nI (q + 1) := by rw [← rd0]; exact c145
              have hq : q + 1 < 5 := Nat.lt_of_not_le (fun h9 => c145' (nI_le (a := 5) h9 (by omega)))
              have hf : fitF none (3 * q + 2) c = true := by rw [hfit, if_pos c123, decide_eq_true hq]
              exact ⟨by decide, by rw [hf]; rfl, (Fr.rf.up (by unfold PG; omega)).up (by unfold PG; omega), fun _ => post 0 (fun _ => ⟨rfl, hq⟩) (fun h9 => absurd c123 h9)⟩
      · rw [hst] at c21; exact absurd c21 (by decide)
      · rw [hst] at c21; exact absurd c21 (by decide)
  | some i, hi, r1, r2, r3, r4, r5, C =>
    obtain ⟨v1, v2, v3, v4, v5⟩ : i < j ∧ j ≤ i + 3 ∧ i % 3 = 2 ∧ 5 ≤ i ∧ i ≤ 14 := hi
    have hst : h.1 73 6 = nI (2 + (j - i)) := r1
    have hrm : h.1 73 3 = nI ((i + 1) / 3) := r2
    rcases (show j = i + 1 ∨ j = i + 2 ∨ j = i + 3 by omega) with rfl | rfl | rfl
    · have hst' : h.1 73 6 = 3 := by rw [hst, show 2 + (i + 1 - i) = 3 by omega]; rfl
      have hfit : fitF (some i) (i + 1) c = dgt c := by show okE (i + 1 - i) c = _; unfold okE; rw [if_pos (by omega)]
      refine V_go C tk_M_go [] 124 ?_
      refine And.intro (fun c21 => ?_) (And.intro (fun c21 => ?_) (And.intro (fun c21 => ?_) (And.intro (fun c21 => ?_) (And.intro (fun c21 => ?_) (And.intro (fun c21 => ?_) trivial)))))
      · exact absurd c21 (by rw [hst']; decide)
      · rw [hst'] at c21; exact absurd c21 (by decide)
      · rw [hst'] at c21; exact absurd c21 (by decide)
      · rw [hst'] at c21; exact absurd c21 (by decide)
      · refine ⟨_, ⟨_, by decide, (ct_M_in32 (c - 48) 0 9 _)⟩, fun r187 h187 p187 => ?_⟩
        obtain ⟨rfl, rfl⟩ := p187
        refine ⟨tI_01 _, by rw [hfit, in09 hok], (Fr.rf.up (by unfold PG; omega)).up (by unfold PG; omega), fun h9 => ?_⟩
        rw [hfit] at h9
        have e : nxM (some i) (i + 1) c = some i := by unfold nxM; rw [if_neg (dgt_ne h9)]
        rw [e]
        refine ⟨⟨?_, ?_, fun z hz => ?_, fun z hz => ?_, fun i' h8 => ?_⟩, ?_⟩
        · simp [up2]
          rw [hst']
          show _ = nI (2 + (i + 1 + 1 - i))
          rw [show 2 + (i + 1 + 1 - i) = 4 by omega]
          rfl
        · simp [up2]
          exact hrm
        · simp [up2]
          exact r3 z hz
        · simp [up2]
          exact r4 z hz
        · cases h8
          refine ⟨fun _ => ?_, fun h7 => by omega⟩
          simp [up2]
          rw [hc]
        · show i < i + 1 + 1 ∧ i + 1 + 1 ≤ i + 3 ∧ i % 3 = 2 ∧ 5 ≤ i ∧ i ≤ 14
          omega
      · rw [hst'] at c21; exact absurd c21 (by decide)
    · have hst' : h.1 73 6 = 4 := by rw [hst, show 2 + (i + 2 - i) = 4 by omega]; rfl
      have hfit : fitF (some i) (i + 2) c = dgt1 c := by show okE (i + 2 - i) c = _; unfold okE; rw [if_neg (by omega), if_pos (by omega)]
      refine V_go C tk_M_go [] 124 ?_
      refine And.intro (fun c21 => ?_) (And.intro (fun c21 => ?_) (And.intro (fun c21 => ?_) (And.intro (fun c21 => ?_) (And.intro (fun c21 => ?_) (And.intro (fun c21 => ?_) trivial)))))
      · exact absurd c21 (by rw [hst']; decide)
      · rw [hst'] at c21; exact absurd c21 (by decide)
      · rw [hst'] at c21; exact absurd c21 (by decide)
      · rw [hst'] at c21; exact absurd c21 (by decide)
      · rw [hst'] at c21; exact absurd c21 (by decide)
      · refine ⟨_, ⟨_, by decide, (ct_M_in32 (c - 48) 1 9 _)⟩, fun r202 h202 p202 => ?_⟩
        obtain ⟨rfl, rfl⟩ := p202
        refine ⟨tI_01 _, by rw [hfit, in19 hok], (Fr.rf.up (by unfold PG; omega)).up (by unfold PG; omega), fun h9 => ?_⟩
        rw [hfit] at h9
        have e : nxM (some i) (i + 2) c = some i := by unfold nxM; rw [if_neg (dgt1_ne h9)]
        rw [e]
        refine ⟨⟨?_, ?_, fun z hz => ?_, fun z hz => ?_, fun i' h8 => ?_⟩, ?_⟩
        · simp [up2]
          rw [hst']
          show _ = nI (2 + (i + 2 + 1 - i))
          rw [show 2 + (i + 2 + 1 - i) = 5 by omega]
          rfl
        · simp [up2]
          exact hrm
        · simp [up2]
          exact r3 z hz
        · simp [up2]
          exact r4 z hz
        · cases h8
          refine ⟨fun _ => ?_, fun _ => ?_⟩
          · simp [up2]
            exact (r5 i rfl).1 (by omega)
          · simp [up2]
            rw [hc]
        · show i < i + 2 + 1 ∧ i + 2 + 1 ≤ i + 3 ∧ i % 3 = 2 ∧ 5 ≤ i ∧ i ≤ 14
          omega
    · have hst' : h.1 73 6 = 5 := by rw [hst, show 2 + (i + 3 - i) = 5 by omega]; rfl
      have hfit : fitF (some i) (i + 3) c = false := by show okE (i + 3 - i) c = _; unfold okE; rw [if_neg (by omega), if_neg (by omega)]
      refine V_go C tk_M_go [] 124 ?_
      refine And.intro (fun c21 => ?_) (And.intro (fun c21 => ?_) (And.intro (fun c21 => ?_) (And.intro (fun c21 => ?_) (And.intro (fun c21 => ?_) (And.intro (fun c21 => ?_) trivial)))))
      · exact ⟨by decide, by rw [hfit]; rfl, Fr.rf.up (by unfold PG; omega), fun h9 => by rw [hfit] at h9; cases h9⟩
      · rw [hst'] at c21; exact absurd c21 (by decide)
      · rw [hst'] at c21; exact absurd c21 (by decide)
      · rw [hst'] at c21; exact absurd c21 (by decide)
      · rw [hst'] at c21; exact absurd c21 (by decide)
      · rw [hst'] at c21; exact absurd c21 (by decide)
/-- the page's fault -/
theorem ct_M_faultOf {p : Nat} {pg : Nat → Int32} {h : Hp} (hp : RP p pg h) (hok : ∀ j, j < p → ltOk (pg j) = true) : Ct 2 md_M_faultOf [.ref 73] h (fun r h' => r = some (.int (nI (ffF pg p 0 none).1)) ∧ Fr PG h h' ∧ ((ffF pg p 0 none).1 = p → RG pg p (ffF pg p 0 none).2 h' ∧ IV p (ffF pg p 0 none).2)) := by
  refine Ct_of 7 rfl rfl rfl (fun X C => ?_)
  obtain ⟨⟨hpm, hp18⟩, hg⟩ := id hp
  have loop : ∀ (n j : Nat) (b : Int32) (hh : Hp) (mr : Option Nat), j + n = p → b = nI j → RG pg j mr hh → IV j mr → Fr PG h hh → ffF pg n j mr = ffF pg p 0 none → V X 12 [some (.ref 73), some (.int b)] [] hh := by
    intro n
    induction n with
    | zero =>
      intro j b hh mr hj hb hr hi hf he
      subst hb
      have e1 : hh.1 73 1 = nI j := by rw [hf.1 73 1 (by unfold PG; omega), hpm]; congr 1; omega
      have he' : (j, mr) = ffF pg p 0 none := he
      have hjp : j = p := by omega
      refine V_go C tk_M_faultOf [12] 43 ?_
      refine And.intro (fun c17 => ?_) (fun c17 => ?_)
      · rw [← he']
        refine ⟨rfl, hf, fun _ => ?_⟩
        subst hjp
        exact ⟨hr, hi⟩
      · exact absurd (nle e1) c17
    | succ n ih =>
      intro j b hh mr hj hb hr hi hf he
      subst hb
      have e1 : hh.1 73 1 = nI p := by rw [hf.1 73 1 (by unfold PG; omega), hpm]
      have e3 := nIc (i := j) (by omega)
      have eg : hh.1 74 j = pg j := by rw [hf.1 74 j (by unfold PG; omega)]; exact hg j (by omega)
      have he' : (if fitF mr j (pg j) then ffF pg n (j + 1) (nxM mr j (pg j)) else (j, mr)) = ffF pg p 0 none := he
      refine V_go C tk_M_faultOf [12] 43 ?_
      refine And.intro (fun c17 => ?_) (fun c17 => ?_)
      · exact absurd c17 (nge (by omega) (by omega) e1)
      · refine And.intro ((inn (by omega) (by decide))) ?_
        refine ⟨_, ⟨_, by decide, (ct_M_go hr hi (c := hh.1 74 (nI j).toNatClampNeg) (by rw [e3]; exact eg) (by rw [e3, eg]; exact hok j (by omega)))⟩, fun r27 h27 p27 => ?_⟩
        obtain ⟨rfl, f1, g1⟩ := p27
        rw [e3, eg] at g1
        rw [e3, eg]
        refine And.intro (fun c30 => ?_) (fun c30 => ?_)
        · rw [tI_0] at c30
          rw [c30] at he'
          have he2 : (j, mr) = ffF pg p 0 none := he'
          rw [← he2]
          exact ⟨rfl, hf.tr f1, fun h9 => by have h8 : j = p := h9; omega⟩
        · rw [tI_n] at c30
          rw [c30] at he'
          obtain ⟨g2, g3⟩ := g1 c30
          exact ih (j + 1) _ _ _ (by omega) (nI_1 j) g2 g3 (hf.tr f1) he'
  refine V_go C tk_M_faultOf [12] 43 ?_
  refine loop p 0 _ _ none (by omega) rfl ⟨by simp [up2]; rfl, by simp [up2]; rfl, fun q hq => absurd hq (Nat.not_lt_zero _), fun q hq => absurd hq (Nat.not_lt_zero _), fun i h9 => by cases h9⟩ (Nat.zero_le 14) ((Fr.rf.up (by unfold PG; omega)).up (by unfold PG; omega)) rfl
theorem ct_M_fault {p : Nat} {pg : Nat → Int32} {h : Hp} (hp : RP p pg h) (hok : ∀ j, j < p → ltOk (pg j) = true) : Ct 3 md_M_fault [.ref 73] h (fun r h' => r = some (.int (nI (ffF pg p 0 none).1)) ∧ Fr PG h h') := by
  refine Ct_of 7 rfl rfl rfl (fun X C => ?_)
  refine V_go C tk_M_fault [] 23 ?_
  refine ⟨_, ⟨_, by decide, (ct_M_faultOf hp hok)⟩, fun r1 h1 p1 => ?_⟩
  obtain ⟨rfl, f1, -⟩ := p1
  exact ⟨rfl, f1⟩
