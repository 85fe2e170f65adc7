def P77 (a _b : Nat) : Prop := a = 77
def P76 (a _b : Nat) : Prop := a = 76
def brV (K : KF) (A : AS) : Int32 := if kL K = 0 then -103 else nI (lostN K A)
def brA (K : KF) (A : AS) : AS := if kL K = 0 then A else stepA K A
theorem lacksE {K : KF} {h : Hp} (hs : MS K h) : decide (h.1 73 7 = 0) = decide (kL K = 0) := by
  apply decide_eq_decide.mpr
  rw [hs.1.1]
  exact nI_eq0 (by have := hs.1.2; omega)
theorem ct_M_lacksR {K : KF} {h : Hp} (hs : MS K h) : Ct 0 md_M_lacks [.ref 73] h (ex (.int (tI (decide (kL K = 0)))) h) := by
  have h1 := ct_M_lacks h
  rw [lacksE hs] at h1
  exact h1
theorem ct_M_breath {K : KF} {A : AS} {q3 q4 : Nat → Int32} {F : Nat} {h : Hp} (hr : RN K A q3 q4 F h) : Ct 3 md_M_breath [.ref 73] h (fun r h' => r = some (.int (brV K A)) ∧ RN K (brA K A) q3 q4 F h' ∧ Fr PN h h') := by
  refine Ct_of 7 rfl rfl rfl (fun X C => ?_)
  obtain ⟨hs, hd, hq, hF, hF16⟩ := id hr
  obtain ⟨⟨hL, hL5⟩, -, -, -, ⟨hN, hN3⟩, -⟩ := id hs
  by_cases hl0 : kL K = 0
  · have e : brV K A = -103 ∧ brA K A = A := by unfold brV brA; rw [if_pos hl0, if_pos hl0]; exact ⟨rfl, rfl⟩
    rw [e.1, e.2] at C
    refine V_go C tk_M_breath [21, 53] 86 ?_
    refine ⟨_, ⟨_, by decide, (ct_M_lacksR hs)⟩, fun r1 h1 p1 => ?_⟩
    obtain ⟨rfl, rfl⟩ := p1
    refine And.intro (fun c4 => ?_) (fun c4 => ?_)
    · rw [decide_eq_true hl0] at c4; exact absurd c4 (by decide)
    · exact ⟨rfl, hr, Fr.rf⟩
  have e : brV K A = nI (lostN K A) ∧ brA K A = stepA K A := by unfold brV brA; rw [if_neg hl0, if_neg hl0]; exact ⟨rfl, rfl⟩
  rw [e.1, e.2] at C
  -- what is written back
  have loop2 : ∀ (n i : Nat) (b : Int32) (hh : Hp), i + n = kN K → b = nI i → MX K (stepA K A) hh → Fr PN h hh → MS K hh → hh.1 73 10 = nI F → (∀ k, k < kL K → hh.1 76 (5 * k + 3) = q3 k ∧ hh.1 76 (5 * k + 4) = q4 k ∧ hh.1 76 (5 * k + 2) = nI (aD (stepA K A) k)) → (∀ s, s < i → hh.1 77 (3 * s + 0) = nI (aP (stepA K A) s) ∧ hh.1 77 (3 * s + 2) = nI (aQ (stepA K A) s)) → V X 53 [some (.ref 73), some (.int (nI (lostN K A))), some (.int b)] [] hh := by
    intro n
    induction n with
    | zero =>
      intro i b hh hi hb hx hf hm h10 hk hs2
      subst hb
      have e1 : hh.1 73 14 = nI i := by rw [hm.2.2.2.2.1.1]; congr 1; omega
      obtain ⟨s1, s2, s3, s4, s5, s6⟩ := hm
      refine V_go C tk_M_breath [21, 53] 86 ?_
      refine And.intro (fun c58 => ?_) (fun c58 => ?_)
      · refine ⟨rfl, ⟨⟨by simp [up2]; exact s1, by simp [up2]; exact s2, by simp [up2]; exact s3, fun k hk' => by have := s4 k hk'; simp [up2]; exact this, by simp [up2]; exact s5, fun s hs' => by have := s6 s hs'; simp [up2]; exact this⟩, ⟨fun k hk' => ⟨?_, (hx.1 k hk').2⟩, fun s hs' => ⟨?_, (hx.2.1 s hs').1.2, ?_, (hx.2.1 s hs').2.2⟩, ?_⟩, fun k hk' => ⟨?_, ?_⟩, by simp [up2]; exact h10, hF16⟩, hf.up (by unfold PN; omega)⟩
        · simp [up2]; exact (hk k hk').2.2
        · simp [up2]; exact (hs2 s (by omega)).1
        · simp [up2]; exact (hs2 s (by omega)).2
        · simp [up2]; exact hx.2.2
        · simp [up2]; exact (hk k hk').1
        · simp [up2]; exact (hk k hk').2.1
      · exact absurd (nle e1) c58
    | succ n ih =>
      intro i b hh hi hb hx hf hm h10 hk hs2
      subst hb
      have hi3 : i < kN K := by omega
      have e1 : hh.1 73 14 = nI (kN K) := hm.2.2.2.2.1.1
      have e3 := nIc (i := i) (by omega)
      have i0 : ((3 : Int32) * nI i).toNatClampNeg = 3 * i := ix0c 3 i (by omega)
      have i2 : ((3 : Int32) * nI i + 2).toNatClampNeg = 3 * i + 2 := ixc 3 2 i (by omega)
      obtain ⟨⟨x1, -⟩, x2, -⟩ := hx.2.1 i hi3
      refine V_go C tk_M_breath [21, 53] 86 ?_
      refine And.intro (fun c58 => ?_) (fun c58 => ?_)
      · exact absurd c58 (nge (by omega) (by omega) e1)
      · refine And.intro ((inn (by omega) (by decide))) ?_
        refine And.intro ((ix0in 3 i 9 (by omega) (by decide))) ?_
        refine And.intro ((inn (by omega) (by decide))) ?_
        refine And.intro ((ixin 3 2 i 9 (by omega) (by decide))) ?_
        rw [i0, i2, e3]
        obtain ⟨m1, m2, m3, m4, m5, m6⟩ := id hm
        refine ih (i + 1) _ _ (by omega) (nI_1 i) ?_ ((hf.up (by unfold PN; omega)).up (by unfold PN; omega)) ⟨by simp [up2]; exact m1, by simp [up2]; exact m2, by simp [up2]; exact m3, fun k hk' => by have := m4 k hk'; simp [up2]; exact this, by simp [up2]; exact m5, fun s hs' => ?_⟩ (by simp [up2]; exact h10) (fun k hk' => by have := hk k hk'; simp [up2]; exact this) (fun s hs' => ?_)
        · exact hx.fr (P := P77) (((Fr.rf (P := P77)).up (show P77 77 _ from rfl)).up (show P77 77 _ from rfl)) (fun a b h9 => by unfold P77 at h9; omega)
        · have := m6 s hs'
          show up2 (up2 hh.1 77 (3 * i) _) 77 (3 * i + 2) _ 77 (3 * s + 1) = _ ∧ _
          rw [up2_b _ _ _ _ (by omega), up2_b _ _ _ _ (by omega)]
          exact this
        · by_cases hsi : s = i
          · subst hsi
            simp [up2]
            exact ⟨x1, x2⟩
          · have h1 : 3 * s ≠ 3 * i := by omega
            have h2 : 3 * s ≠ 3 * i + 2 := by omega
            have h3 : 3 * s + 2 ≠ 3 * i := by omega
            have h4 : 3 * s + 2 ≠ 3 * i + 2 := by omega
            simp only [up2, h1, h2, h3, h4, Nat.add_zero, and_false, if_false]
            exact hs2 s (by omega)
  have loop1 : ∀ (n i : Nat) (b : Int32) (hh : Hp), i + n = kL K → b = nI i → MX K (stepA K A) hh → Fr PN h hh → MS K hh → hh.1 73 10 = nI F → (∀ k, k < kL K → hh.1 76 (5 * k + 3) = q3 k ∧ hh.1 76 (5 * k + 4) = q4 k) → (∀ k, k < i → hh.1 76 (5 * k + 2) = nI (aD (stepA K A) k)) → V X 21 [some (.ref 73), some (.int (nI (lostN K A))), some (.int b)] [] hh := by
    intro n
    induction n with
    | zero =>
      intro i b hh hi hb hx hf hm h10 hk hk2
      subst hb
      have e1 : hh.1 73 7 = nI i := by rw [hm.1.1]; congr 1; omega
      refine V_go C tk_M_breath [21, 53] 86 ?_
      refine And.intro (fun c26 => ?_) (fun c26 => ?_)
      · exact loop2 (kN K) 0 _ _ (by omega) rfl hx hf hm h10 (fun k hk' => ⟨(hk k hk').1, (hk k hk').2, hk2 k (by omega)⟩) (fun s hs' => absurd hs' (by omega))
      · exact absurd (nle e1) c26
    | succ n ih =>
      intro i b hh hi hb hx hf hm h10 hk hk2
      subst hb
      have hi5 : i < kL K := by omega
      have e1 : hh.1 73 7 = nI (kL K) := hm.1.1
      have e3 := nIc (i := i) (by omega)
      have i2 : ((5 : Int32) * nI i + 2).toNatClampNeg = 5 * i + 2 := ixc 5 2 i (by omega)
      refine V_go C tk_M_breath [21, 53] 86 ?_
      refine And.intro (fun c26 => ?_) (fun c26 => ?_)
      · exact absurd c26 (nge (by omega) (by omega) e1)
      · refine And.intro ((inn (by omega) (by decide))) ?_
        refine And.intro ((ixin 5 2 i 25 (by omega) (by decide))) ?_
        rw [i2, e3]
        obtain ⟨m1, m2, m3, m4, m5, m6⟩ := id hm
        refine ih (i + 1) _ _ (by omega) (nI_1 i) (hx.fr (P := P76) ((Fr.rf (P := P76)).up (show P76 76 _ from rfl)) (fun a b h9 => by unfold P76 at h9; omega)) (hf.up (by unfold PN; omega)) ⟨by simp [up2]; exact m1, by simp [up2]; exact m2, by simp [up2]; exact m3, fun k hk' => ?_, by simp [up2]; exact m5, fun s hs' => by have := m6 s hs'; simp [up2]; exact this⟩ (by simp [up2]; exact h10) (fun k hk' => ?_) (fun k hk' => ?_)
        · have := m4 k hk'
          show up2 hh.1 76 (5 * i + 2) _ 76 (5 * k + 0) = _ ∧ _ ∧ up2 hh.1 76 (5 * i + 2) _ 76 (5 * k + 1) = _ ∧ _
          rw [up2_b _ _ _ _ (by omega), up2_b _ _ _ _ (by omega)]
          exact this
        · show up2 hh.1 76 (5 * i + 2) _ 76 (5 * k + 3) = _ ∧ up2 hh.1 76 (5 * i + 2) _ 76 (5 * k + 4) = _
          rw [up2_b _ _ _ _ (by omega), up2_b _ _ _ _ (by omega)]
          exact hk k hk'
        · by_cases hki : k = i
          · subst hki
            show up2 hh.1 76 (5 * k + 2) _ 76 (5 * k + 2) = _
            rw [up2_s]
            exact (hx.1 k hi5).1
          · show up2 hh.1 76 (5 * i + 2) _ 76 (5 * k + 2) = _
            rw [up2_b _ _ _ _ (by omega)]
            exact hk2 k (by omega)
  refine V_go C tk_M_breath [21, 53] 86 ?_
  refine ⟨_, ⟨_, by decide, (ct_M_lacksR hs)⟩, fun r1 h1 p1 => ?_⟩
  obtain ⟨rfl, rfl⟩ := p1
  refine And.intro (fun c4 => ?_) (fun c4 => ?_)
  · refine ⟨_, ⟨_, by decide, (ct_M_asItIs hs hd)⟩, fun r11 h11 p11 => ?_⟩
    obtain ⟨rfl, x1, f1⟩ := p11
    refine ⟨_, ⟨_, by decide, (ct_M_goesBy (hs.f7 f1) x1)⟩, fun r15 h15 p15 => ?_⟩
    obtain ⟨rfl, x2, f2⟩ := p15
    have f3 := f1.tr f2
    refine loop1 (kL K) 0 _ _ (by omega) rfl x2 f3.n7 (hs.f7 f3) ?_ (fun k hk' => ?_) (fun k hk' => absurd hk' (by omega))
    · rw [f3.1 73 10 (by unfold P7; omega)]; exact hF
    · rw [f3.1 76 _ (by unfold P7; omega), f3.1 76 _ (by unfold P7; omega)]; exact hq k hk'
  · rw [decide_eq_false hl0] at c4; exact absurd rfl c4
