/-! ===== the class: what was heard ===== -/
def CH6 (H : HD) (h : Hp) : Prop := (h.1 6 6 = nI (dM H) ∧ dM H ≤ 8) ∧ ∀ i, i < dM H → (h.1 63 i = nI (dL H i) ∧ dL H i < 5) ∧ (h.1 64 i = nI (dF H i) ∧ dF H i < 4) ∧ h.1 65 i = tI (dT H i) ∧ h.1 66 i = dB H i ∧ h.1 67 i = tI (dY H i)
def PH6 (a _b : Nat) : Prop := a = 6 ∨ (63 ≤ a ∧ a ≤ 67)
def CH7 (H : HD) (h : Hp) : Prop := (h.1 7 6 = nI (dM H) ∧ dM H ≤ 8) ∧ ∀ i, i < dM H → (h.1 68 i = nI (dL H i) ∧ dL H i < 5) ∧ (h.1 69 i = nI (dF H i) ∧ dF H i < 4) ∧ h.1 70 i = tI (dT H i) ∧ h.1 71 i = dB H i ∧ h.1 72 i = tI (dY H i)
def PH7 (a _b : Nat) : Prop := a = 7 ∨ (68 ≤ a ∧ a ≤ 72)
theorem ct_Heard_clear {H : HD} (h : Hp) : Ct 0 md_Heard_clear [.ref 6] h (fun r h' => r = none ∧ CH6 (hd0 H) h' ∧ Fr PH6 h h') := by
  refine Ct_of 1 rfl rfl rfl (fun X C => ?_)
  refine V_go C tk_Heard_clear [] 24 ?_
  exact ⟨rfl, ⟨⟨by simp [up2]; rfl, Nat.zero_le 8⟩, fun i hi => absurd hi (Nat.not_lt_zero i)⟩, Fr.rf.up (by unfold PH6; omega)⟩
theorem ct_Heard_add {H H' : HD} {h : Hp} (hh : CH6 H h) (h8 : dM H < 8) {k f : Nat} (hk : k < 5) (hf : f < 4) (t : Bool) (b : Int32) (y : Bool) (hH : H' = (dM H + 1, fun i => if i = dM H then k else dL H i, fun i => if i = dM H then f else dF H i, fun i => if i = dM H then t else dT H i, fun i => if i = dM H then b else dB H i, fun i => if i = dM H then y else dY H i)) : Ct 1 md_Heard_add [.ref 6, .int (nI k), .int (nI f), .int (tI t), .int b, .int (tI y)] h (fun r h' => r = none ∧ CH6 H' h' ∧ Fr PH6 h h') := by
  subst hH
  refine Ct_of 1 rfl rfl rfl (fun X C => ?_)
  obtain ⟨⟨n1, n2⟩, n3⟩ := id hh
  have L75 : ∀ (z : Int32) (hh' : Hp), z = tI y → hh'.1 6 6 = nI (dM H) → (∀ i, i < dM H → hh'.1 63 i = nI (dL H i) ∧ hh'.1 64 i = nI (dF H i) ∧ hh'.1 65 i = tI (dT H i) ∧ hh'.1 66 i = dB H i ∧ hh'.1 67 i = tI (dY H i)) → (hh'.1 63 (dM H) = nI k ∧ hh'.1 64 (dM H) = nI f ∧ hh'.1 65 (dM H) = tI t ∧ hh'.1 66 (dM H) = b) → Fr PH6 h hh' → V X 75 [some (.ref 6), some (.int (nI k)), some (.int (nI f)), some (.int (tI t)), some (.int b), some (.int (tI y))] [.int z, .int (hh'.1 6 6), .ref 35] hh' := by
    intro z hh' hz e6 ea eb hf'
    subst hz
    refine V_go C tk_Heard_add [] 65 ?_
    refine ⟨_, ⟨_, by decide, (ct_Row_put (r := 35) (a := 67) (n := 8) (by decide) e6 h8 _ _)⟩, fun r75 h75 p75 => ?_⟩
    obtain ⟨rfl, rfl⟩ := p75
    refine ⟨rfl, ⟨⟨by simp [up2]; rw [e6]; exact nI_1 _, by show dM H + 1 ≤ 8; omega⟩, fun i hi => ?_⟩, (hf'.up (by unfold PH6; omega)).up (by unfold PH6; omega)⟩
    have hi' : i < dM H + 1 := hi
    by_cases h9 : i = dM H
    · subst h9
      simp [up2, dL, dF, dT, dB, dY]
      exact ⟨⟨eb.1, hk⟩, ⟨eb.2.1, hf⟩, eb.2.2.1, eb.2.2.2⟩
    · obtain ⟨g1, g2, g3, g4, g5⟩ := ea i (by omega)
      obtain ⟨⟨-, j1⟩, ⟨-, j2⟩, -⟩ := n3 i (by omega)
      refine ⟨⟨?_, ?_⟩, ⟨?_, ?_⟩, ?_, ?_, ?_⟩
      · show _ = nI (if i = dM H then k else dL H i)
        rw [if_neg h9]; simp [up2, h9]; exact g1
      · show (if i = dM H then k else dL H i) < 5
        rw [if_neg h9]; exact j1
      · show _ = nI (if i = dM H then f else dF H i)
        rw [if_neg h9]; simp [up2, h9]; exact g2
      · show (if i = dM H then f else dF H i) < 4
        rw [if_neg h9]; exact j2
      · show _ = tI (if i = dM H then t else dT H i)
        rw [if_neg h9]; simp [up2, h9]; exact g3
      · show _ = (if i = dM H then b else dB H i)
        rw [if_neg h9]; simp [up2, h9]; exact g4
      · show _ = tI (if i = dM H then y else dY H i)
        rw [if_neg h9]; simp [up2, h9]; exact g5
  have L41 : ∀ (z : Int32) (hh' : Hp), z = tI t → hh'.1 6 6 = nI (dM H) → (∀ i, i < dM H → hh'.1 63 i = nI (dL H i) ∧ hh'.1 64 i = nI (dF H i) ∧ hh'.1 65 i = tI (dT H i) ∧ hh'.1 66 i = dB H i ∧ hh'.1 67 i = tI (dY H i)) → (hh'.1 63 (dM H) = nI k ∧ hh'.1 64 (dM H) = nI f) → Fr PH6 h hh' → V X 41 [some (.ref 6), some (.int (nI k)), some (.int (nI f)), some (.int (tI t)), some (.int b), some (.int (tI y))] [.int z, .int (hh'.1 6 6), .ref 33] hh' := by
    intro z hh' hz e6 ea eb hf'
    subst hz
    have fin : ∀ w : Int32, w = tI y → V X 75 [some (.ref 6), some (.int (nI k)), some (.int (nI f)), some (.int (tI t)), some (.int b), some (.int (tI y))] [.int w, .int (((up2 (up2 hh'.1 65 (dM H) (tI t)) 66 (dM H) b, hh'.2) : Hp).1 6 6), .ref 35] (up2 (up2 hh'.1 65 (dM H) (tI t)) 66 (dM H) b, hh'.2) := by
      intro w hw
      refine L75 w _ hw (by simp [up2]; exact e6) (fun i hi => ?_) (by simp [up2]; exact eb) ((hf'.up (by unfold PH6; omega)).up (by unfold PH6; omega))
      have := ea i hi
      have hne : i ≠ dM H := by omega
      simp [up2, hne]
      exact this
    refine V_go C tk_Heard_add [75] 65 ?_
    refine ⟨_, ⟨_, by decide, (ct_Row_put (r := 33) (a := 65) (n := 8) (by decide) e6 h8 _ _)⟩, fun r41 h41 p41 => ?_⟩
    obtain ⟨rfl, rfl⟩ := p41
    refine ⟨_, ⟨_, by decide, (ct_Row_put (r := 34) (a := 66) (n := 8) (k := dM H) (by decide) (by simp [up2]; exact e6) h8 _ _)⟩, fun r54 h54 p54 => ?_⟩
    obtain ⟨rfl, rfl⟩ := p54
    refine And.intro (fun c67 => ?_) (fun c67 => ?_)
    · rw [tI_0] at c67
      exact fin _ (by rw [c67]; rfl)
    · rw [tI_n] at c67
      exact fin _ (by rw [c67]; rfl)
  have fin : ∀ w : Int32, w = tI t → V X 41 [some (.ref 6), some (.int (nI k)), some (.int (nI f)), some (.int (tI t)), some (.int b), some (.int (tI y))] [.int w, .int (((up2 (up2 h.1 63 (dM H) (nI k)) 64 (dM H) (nI f), h.2) : Hp).1 6 6), .ref 33] (up2 (up2 h.1 63 (dM H) (nI k)) 64 (dM H) (nI f), h.2) := by
    intro w hw
    refine L41 w _ hw (by simp [up2]; exact n1) (fun i hi => ?_) (by simp [up2]) ((Fr.rf.up (by unfold PH6; omega)).up (by unfold PH6; omega))
    obtain ⟨⟨j0, j1⟩, ⟨j2, j3⟩, j4, j5, j6⟩ := n3 i hi
    have hne : i ≠ dM H := by omega
    simp [up2, hne]
    exact ⟨j0, j2, j4, j5, j6⟩
  refine V_go C tk_Heard_add [41] 65 ?_
  refine ⟨_, ⟨_, by decide, (ct_Row_put (r := 31) (a := 63) (n := 8) (by decide) n1 h8 _ _)⟩, fun r9 h9 p9 => ?_⟩
  obtain ⟨rfl, rfl⟩ := p9
  refine ⟨_, ⟨_, by decide, (ct_Row_put (r := 32) (a := 64) (n := 8) (k := dM H) (by decide) (by simp [up2]; exact n1) h8 _ _)⟩, fun r21 h21 p21 => ?_⟩
  obtain ⟨rfl, rfl⟩ := p21
  refine And.intro (fun c33 => ?_) (fun c33 => ?_)
  · rw [tI_0] at c33
    exact fin _ (by rw [c33]; rfl)
  · rw [tI_n] at c33
    exact fin _ (by rw [c33]; rfl)
theorem ct_Heard_copyFrom_67 {H : HD} {h : Hp} (hn : CH7 H h) : Ct 2 md_Heard_copyFrom [.ref 6, .ref 7] h (fun r h' => r = none ∧ CH6 H h' ∧ Fr PH6 h h') := by
  refine Ct_of 1 rfl rfl rfl (fun X C => ?_)
  obtain ⟨⟨n1, n2⟩, n3⟩ := id hn
  refine V_go C tk_Heard_copyFrom [] 50 ?_
  refine ⟨_, ⟨_, by decide, (ct_Row_copyFrom (r := 31) (s := 36) (a := 63) (b := 68) (n := 8) (by decide) _)⟩, fun r8 h8 p8 => ?_⟩
  obtain ⟨rfl, rfl⟩ := p8
  refine ⟨_, ⟨_, by decide, (ct_Row_copyFrom (r := 32) (s := 37) (a := 64) (b := 69) (n := 8) (by decide) _)⟩, fun r19 h19 p19 => ?_⟩
  obtain ⟨rfl, rfl⟩ := p19
  refine ⟨_, ⟨_, by decide, (ct_Row_copyFrom (r := 33) (s := 38) (a := 65) (b := 70) (n := 8) (by decide) _)⟩, fun r30 h30 p30 => ?_⟩
  obtain ⟨rfl, rfl⟩ := p30
  refine ⟨_, ⟨_, by decide, (ct_Row_copyFrom (r := 34) (s := 39) (a := 66) (b := 71) (n := 8) (by decide) _)⟩, fun r41 h41 p41 => ?_⟩
  obtain ⟨rfl, rfl⟩ := p41
  refine ⟨_, ⟨_, by decide, (ct_Row_copyFrom (r := 35) (s := 40) (a := 67) (b := 72) (n := 8) (by decide) _)⟩, fun r52 h52 p52 => ?_⟩
  obtain ⟨rfl, rfl⟩ := p52
  refine ⟨rfl, ⟨⟨?_, n2⟩, fun i hi => ?_⟩, ((((((Fr.rf.cp (fun y _ => by unfold PH6; omega)).cp (fun y _ => by unfold PH6; omega)).cp (fun y _ => by unfold PH6; omega)).cp (fun y _ => by unfold PH6; omega)).cp (fun y _ => by unfold PH6; omega)).up (by unfold PH6; omega))⟩
  · simp [up2, cpH]; exact n1
  · have := n3 i hi
    have hs8 : i < 8 := by omega
    simp [up2, cpH, hs8]
    exact this
theorem ct_Heard_copyFrom_76 {H : HD} {h : Hp} (hn : CH6 H h) : Ct 2 md_Heard_copyFrom [.ref 7, .ref 6] h (fun r h' => r = none ∧ CH7 H h' ∧ Fr PH7 h h') := by
  refine Ct_of 1 rfl rfl rfl (fun X C => ?_)
  obtain ⟨⟨n1, n2⟩, n3⟩ := id hn
  refine V_go C tk_Heard_copyFrom [] 50 ?_
  refine ⟨_, ⟨_, by decide, (ct_Row_copyFrom (r := 36) (s := 31) (a := 68) (b := 63) (n := 8) (by decide) _)⟩, fun r8 h8 p8 => ?_⟩
  obtain ⟨rfl, rfl⟩ := p8
  refine ⟨_, ⟨_, by decide, (ct_Row_copyFrom (r := 37) (s := 32) (a := 69) (b := 64) (n := 8) (by decide) _)⟩, fun r19 h19 p19 => ?_⟩
  obtain ⟨rfl, rfl⟩ := p19
  refine ⟨_, ⟨_, by decide, (ct_Row_copyFrom (r := 38) (s := 33) (a := 70) (b := 65) (n := 8) (by decide) _)⟩, fun r30 h30 p30 => ?_⟩
  obtain ⟨rfl, rfl⟩ := p30
  refine ⟨_, ⟨_, by decide, (ct_Row_copyFrom (r := 39) (s := 34) (a := 71) (b := 66) (n := 8) (by decide) _)⟩, fun r41 h41 p41 => ?_⟩
  obtain ⟨rfl, rfl⟩ := p41
  refine ⟨_, ⟨_, by decide, (ct_Row_copyFrom (r := 40) (s := 35) (a := 72) (b := 67) (n := 8) (by decide) _)⟩, fun r52 h52 p52 => ?_⟩
  obtain ⟨rfl, rfl⟩ := p52
  refine ⟨rfl, ⟨⟨?_, n2⟩, fun i hi => ?_⟩, ((((((Fr.rf.cp (fun y _ => by unfold PH7; omega)).cp (fun y _ => by unfold PH7; omega)).cp (fun y _ => by unfold PH7; omega)).cp (fun y _ => by unfold PH7; omega)).cp (fun y _ => by unfold PH7; omega)).up (by unfold PH7; omega))⟩
  · simp [up2, cpH]; exact n1
  · have := n3 i hi
    have hs8 : i < 8 := by omega
    simp [up2, cpH, hs8]
    exact this
theorem tI_eq {a b : Bool} : tI a = tI b ↔ a = b := by cases a <;> cases b <;> decide
def hSay (kd : Int32) (w f : Nat) (t : Bool) (b : Int32) (y : Bool) : Bool := (sayF kd (w.testBit f != t) b == y) || (decide (kd = 2) && y)
theorem ct_Heard_wouldSay {H : HD} {h : Hp} (hh : CH6 H h) {i w : Nat} (hi : i < dM H) (hw : w < 16) (kd : Int32) : Ct 1 md_Heard_wouldSay [.ref 6, .int (nI i), .int kd, .int (nI w)] h (ex (.int (tI (hSay kd w (dF H i) (dT H i) (dB H i) (dY H i)))) h) := by
  refine Ct_of 1 rfl rfl rfl (fun X C => ?_)
  obtain ⟨⟨n1, n2⟩, n3⟩ := id hh
  obtain ⟨-, ⟨j2, j3⟩, j4, j5, j6⟩ := n3 i hi
  have L57 : ∀ (z : Int32) (r5 : Option Value), z = tI (dT H i) → (kd = 2 → dY H i = false) → V X 57 [some (.ref 6), some (.int (nI i)), some (.int kd), some (.int (nI w)), some (.int (tI (dY H i))), r5] [.int z, .int (nI (dF H i)), .int (nI w)] h := by
    intro z r5 hz h2
    subst hz
    have e : hSay kd w (dF H i) (dT H i) (dB H i) (dY H i) = (sayF kd (w.testBit (dF H i) != dT H i) (dB H i) == dY H i) := by
      unfold hSay
      by_cases h9 : kd = 2
      · rw [h2 h9, Bool.and_false, Bool.or_false]
      · rw [decide_eq_false h9, Bool.false_and, Bool.or_false]
    refine V_go C tk_Heard_wouldSay [] 66 ?_
    refine ⟨_, ⟨_, by decide, (ct_GD_isTrueN rfl rfl hw j3 (dT H i) h)⟩, fun r57 h57 p57 => ?_⟩
    obtain ⟨rfl, rfl⟩ := p57
    refine ⟨_, ⟨_, by decide, (ct_Row_at (r := 34) (a := 66) (n := 8) (by decide) rfl (by omega) h)⟩, fun r70 h70 p70 => ?_⟩
    rw [j5] at p70
    obtain ⟨rfl, rfl⟩ := p70
    refine ⟨_, ⟨_, by decide, (ct_GD_saysYes _ _ _ h)⟩, fun r73 h73 p73 => ?_⟩
    obtain ⟨rfl, rfl⟩ := p73
    refine And.intro (fun c78 => ?_) (fun c78 => ?_)
    · rw [tI_eq] at c78
      exact ⟨by decide, by rw [e, beq_eq_false_iff_ne.mpr c78]; rfl, rfl⟩
    · rw [tI_eq] at c78
      exact ⟨by decide, by rw [e, beq_iff_eq.mpr c78]; rfl, rfl⟩
  have L31 : ∀ (r5 : Option Value), (kd = 2 → dY H i = false) → V X 31 [some (.ref 6), some (.int (nI i)), some (.int kd), some (.int (nI w)), some (.int (tI (dY H i))), r5] [] h := by
    intro r5 h2
    refine V_go C tk_Heard_wouldSay [57] 66 ?_
    refine ⟨_, ⟨_, by decide, (ct_Row_at (r := 32) (a := 64) (n := 8) (by decide) rfl (by omega) h)⟩, fun r37 h37 p37 => ?_⟩
    rw [j2] at p37
    obtain ⟨rfl, rfl⟩ := p37
    refine ⟨_, ⟨_, by decide, (ct_Row_at (r := 33) (a := 65) (n := 8) (by decide) rfl (by omega) h)⟩, fun r45 h45 p45 => ?_⟩
    rw [j4] at p45
    obtain ⟨rfl, rfl⟩ := p45
    refine And.intro (fun c49 => ?_) (fun c49 => ?_)
    · rw [tI_1] at c49
      exact L57 _ _ (by rw [eq_false_of_ne_true c49]; rfl) h2
    · rw [tI_1] at c49
      exact L57 _ _ (by rw [c49]; rfl) h2
  have L17 : ∀ (z : Int32) (r4 r5 : Option Value), z = tI (dY H i) → V X 17 [some (.ref 6), some (.int (nI i)), some (.int kd), some (.int (nI w)), r4, r5] [.int z] h := by
    intro z r4 r5 hz
    subst hz
    refine V_go C tk_Heard_wouldSay [31] 66 ?_
    refine And.intro (fun c21 => ?_) (fun c21 => ?_)
    · exact L31 _ (fun h9 => absurd h9 c21)
    · refine And.intro (fun c26 => ?_) (fun c26 => ?_)
      · rw [tI_0] at c26
        exact L31 _ (fun _ => c26)
      · rw [tI_n] at c26
        exact ⟨by decide, by unfold hSay; rw [c26, decide_eq_true c21, Bool.and_true, Bool.or_true]; rfl, rfl⟩
  refine V_go C tk_Heard_wouldSay [17] 66 ?_
  refine ⟨_, ⟨_, by decide, (ct_Row_at (r := 35) (a := 67) (n := 8) (by decide) rfl (by omega) h)⟩, fun r5 h5 p5 => ?_⟩
  rw [j6] at p5
  obtain ⟨rfl, rfl⟩ := p5
  refine And.intro (fun c9 => ?_) (fun c9 => ?_)
  · rw [tI_1] at c9
    exact L17 _ _ _ (by rw [eq_false_of_ne_true c9]; rfl)
  · rw [tI_1] at c9
    exact L17 _ _ _ (by rw [c9]; rfl)
theorem allB_f {p : Nat → Bool} {i : Nat} (hp : p i = false) : ∀ {n : Nat}, i < n → allB p n = false
  | 0, h => absurd h (Nat.not_lt_zero i)
  | n + 1, h => by
    show (allB p n && p n) = false
    by_cases h9 : i = n
    · subst h9; rw [hp, Bool.and_false]
    · rw [allB_f hp (n := n) (by omega), Bool.false_and]
theorem ct_Heard_isSaidIn {K : KF} {H : HD} {h : Hp} (hs : CSt K h) (hh : CH6 H h) (hlt : ∀ i, i < dM H → dL H i < kL K) {w : Nat} (hw : w < 16) (other kd : Int32) : Ct 2 md_Heard_isSaidIn [.ref 6, .int (nI w), .int other, .int kd] h (ex (.int (tI (wOk K H other kd w))) h) := by
  refine Ct_of 1 rfl rfl rfl (fun X C => ?_)
  obtain ⟨⟨n1, n2⟩, n3⟩ := id hh
  have hL5 := hs.1.1.2
  have loop : ∀ (n i : Nat) (b : Int32) (r5 : Option Value), i + n = dM H → b = nI i → allB (hOk K H other kd w) i = true → V X 3 [some (.ref 6), some (.int (nI w)), some (.int other), some (.int kd), some (.int b), r5] [] h := by
    intro n
    induction n with
    | zero =>
      intro i b r5 hi hb ha
      subst hb
      obtain rfl : i = dM H := by omega
      refine V_go C tk_Heard_isSaidIn [3] 52 ?_
      refine And.intro (fun c9 => ?_) (fun c9 => ?_)
      · exact ⟨by decide, by unfold wOk; rw [ha]; rfl, rfl⟩
      · exact absurd (nle n1) c9
    | succ n ih =>
      intro i b r5 hi hb ha
      subst hb
      have hiM : i < dM H := by omega
      obtain ⟨⟨j0, j1⟩, -⟩ := n3 i hiM
      have hkL := hlt i hiM
      obtain ⟨⟨k1, k2⟩, -⟩ := hs.1.2.2.2 _ hkL
      have L48 : ∀ (z : Int32) (r5 : Int32), z = ofK K other kd (dL H i) → V X 48 [some (.ref 6), some (.int (nI w)), some (.int other), some (.int kd), some (.int (nI i)), some (.int r5)] [.int z, .int (nI i), .ref 6] h := by
        intro z r5 hz
        subst hz
        have e : hSay (ofK K other kd (dL H i)) w (dF H i) (dT H i) (dB H i) (dY H i) = hOk K H other kd w i := rfl
        refine V_go C tk_Heard_isSaidIn [3] 52 ?_
        refine ⟨_, ⟨_, by decide, (ct_Heard_wouldSay hh hiM hw _)⟩, fun r49 h49 p49 => ?_⟩
        obtain ⟨rfl, rfl⟩ := p49
        refine And.intro (fun c52 => ?_) (fun c52 => ?_)
        · rw [tI_n, e] at c52
          exact ih (i + 1) _ _ (by omega) (nI_1 i) (by show (allB _ i && hOk K H other kd w i) = true; rw [ha, c52]; rfl)
        · rw [tI_0, e] at c52
          exact ⟨by decide, by unfold wOk; rw [allB_f c52 hiM]; rfl, rfl⟩
      refine V_go C tk_Heard_isSaidIn [3, 48] 52 ?_
      refine And.intro (fun c9 => ?_) (fun c9 => ?_)
      · exact absurd c9 (nge (by omega) (by omega) n1)
      · refine ⟨_, ⟨_, by decide, (ct_Row_at (r := 31) (a := 63) (n := 8) (by decide) rfl (by omega) h)⟩, fun r18 h18 p18 => ?_⟩
        rw [j0] at p18
        obtain ⟨rfl, rfl⟩ := p18
        refine And.intro (fun c29 => ?_) (fun c29 => ?_)
        · refine ⟨_, ⟨_, by decide, (ct_Row_at (r := 10) (a := 42) (n := 5) (by decide) rfl (by omega) h)⟩, fun r45 h45 p45 => ?_⟩
          rw [k1] at p45
          obtain ⟨rfl, rfl⟩ := p45
          exact L48 _ _ (by unfold ofK; rw [if_neg c29])
        · exact L48 _ _ (by unfold ofK; rw [if_pos c29])
  refine V_go C tk_Heard_isSaidIn [3] 52 ?_
  exact loop (dM H) 0 _ _ (by omega) rfl rfl
theorem ct_Heard_worldsLeftIf {K : KF} {H : HD} {h : Hp} (hs : CSt K h) (hh : CH6 H h) (hlt : ∀ i, i < dM H → dL H i < kL K) (other kd : Int32) : Ct 3 md_Heard_worldsLeftIf [.ref 6, .int other, .int kd] h (ex (.int (nI (wBits K H other kd))) h) := by
  refine Ct_of 1 rfl rfl rfl (fun X C => ?_)
  have loop : ∀ (n i : Nat) (m b : Int32), i + n = 16 → m = nI (msk (wOk K H other kd) i) → b = nI i → V X 5 [some (.ref 6), some (.int other), some (.int kd), some (.int m), some (.int b)] [] h := by
    intro n
    induction n with
    | zero =>
      intro i m b hi hm hb
      subst hb
      obtain rfl : i = 16 := by omega
      refine V_go C tk_Heard_worldsLeftIf [5] 43 ?_
      refine And.intro (fun c9 => ?_) (fun c9 => ?_)
      · exact ⟨by rw [hm]; rfl, rfl⟩
      · exact absurd (by decide) c9
    | succ n ih =>
      intro i m b hi hm hb
      subst hb
      have em : msk (wOk K H other kd) (i + 1) = msk (wOk K H other kd) i ||| (bif wOk K H other kd i then 2 ^ i else 0) := rfl
      refine V_go C tk_Heard_worldsLeftIf [5] 43 ?_
      refine And.intro (fun c9 => ?_) (fun c9 => ?_)
      · exact absurd c9 (nI_ge (b := 16) (by omega) (by decide))
      · refine ⟨_, ⟨_, by decide, (ct_Heard_isSaidIn hs hh hlt (by omega) other kd)⟩, fun r17 h17 p17 => ?_⟩
        obtain ⟨rfl, rfl⟩ := p17
        refine And.intro (fun c20 => ?_) (fun c20 => ?_)
        · rw [tI_0] at c20
          exact ih (i + 1) _ _ (by omega) (by rw [hm, em, c20]; exact (fa_or _ 0).symm.trans (by rw [show nI 0 = 0 from rfl]; exact Int32.or_zero)|>.symm) (nI_1 i)
        · rw [tI_n] at c20
          exact ih (i + 1) _ _ (by omega) (by rw [hm, em, c20, shl1 (by omega)]; exact fa_or _ _) (nI_1 i)
  refine V_go C tk_Heard_worldsLeftIf [5] 43 ?_
  exact loop 16 0 _ _ (by omega) rfl rfl
theorem ct_Heard_worldsLeft {K : KF} {H : HD} {h : Hp} (hs : CSt K h) (hh : CH6 H h) (hlt : ∀ i, i < dM H → dL H i < kL K) : Ct 4 md_Heard_worldsLeft [.ref 6] h (ex (.int (nI (wBits K H (-1) 0))) h) := by
  refine Ct_of 1 rfl rfl rfl (fun X C => ?_)
  refine V_go C tk_Heard_worldsLeft [] 25 ?_
  refine ⟨_, ⟨_, by decide, (ct_Heard_worldsLeftIf hs hh hlt (-1) 0)⟩, fun r3 h3 p3 => ?_⟩
  obtain ⟨rfl, rfl⟩ := p3
  exact ⟨rfl, rfl⟩
