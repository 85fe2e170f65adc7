/-! ===== the reference: breaths as they would be ===== -/
/-- what the reference's cells tell of the strait -/
def MS (K : KF) (h : Hp) : Prop := (h.1 73 7 = nI (kL K) ∧ kL K ≤ 5) ∧ (h.1 73 8 = nI (kR K) ∧ kR K ≤ 9) ∧ (h.1 73 9 = nI (kD K) ∧ kD K ≤ 9) ∧ (∀ k, k < kL K → h.1 76 (5 * k + 0) = nI (kK K k) ∧ kK K k < 5 ∧ h.1 76 (5 * k + 1) = nI (kP K k) ∧ kP K k < 10) ∧ (h.1 73 14 = nI (kN K) ∧ kN K ≤ 3) ∧ ∀ s, s < kN K → h.1 77 (3 * s + 1) = Int32.ofInt (kC K s) ∧ (-1 ≤ kC K s ∧ kC K s ≤ 1)
/-- what its main rows tell of what goes on -/
def MD' (K : KF) (A : AS) (h : Hp) : Prop := (∀ k, k < kL K → h.1 76 (5 * k + 2) = nI (aD A k) ∧ aD A k ≤ 9) ∧ (∀ s, s < kN K → h.1 77 (3 * s + 0) = nI (aP A s) ∧ aP A s < 10 ∧ h.1 77 (3 * s + 2) = nI (aQ A s) ∧ aQ A s ≤ 2) ∧ h.1 73 11 = aB A
/-- what its rows for trying tell -/
def MX (K : KF) (A : AS) (h : Hp) : Prop := (∀ k, k < kL K → h.1 78 k = nI (aD A k) ∧ aD A k ≤ 9) ∧ (∀ s, s < kN K → (h.1 79 s = nI (aP A s) ∧ aP A s < 10) ∧ h.1 80 s = nI (aQ A s) ∧ aQ A s ≤ 2) ∧ h.1 73 19 = aB A
def P7 (a b : Nat) : Prop := (a = 78 ∧ b < 5) ∨ (a = 79 ∧ b < 3) ∨ (a = 80 ∧ b < 3) ∨ (a = 73 ∧ b = 19)
theorem MS.fr {P : Nat → Nat → Prop} {K : KF} {h h' : Hp} (a : MS K h) (f : Fr P h h') (hp : ∀ i j, P i j → i ≠ 76 ∧ i ≠ 77 ∧ ¬ (i = 73 ∧ (j = 7 ∨ j = 8 ∨ j = 9 ∨ j = 14))) : MS K h' := by
  obtain ⟨⟨a1, a2⟩, ⟨a3, a4⟩, ⟨a5, a6⟩, a7, ⟨a8, a9⟩, a10⟩ := a
  have e : ∀ i j, (i = 76 ∨ i = 77 ∨ (i = 73 ∧ (j = 7 ∨ j = 8 ∨ j = 9 ∨ j = 14))) → h'.1 i j = h.1 i j := fun i j hq => f.1 i j (fun hn => by
    have := hp i j hn
    omega)
  refine ⟨⟨by rw [e _ _ (by omega)]; exact a1, a2⟩, ⟨by rw [e _ _ (by omega)]; exact a3, a4⟩, ⟨by rw [e _ _ (by omega)]; exact a5, a6⟩, fun k hk => ?_, ⟨by rw [e _ _ (by omega)]; exact a8, a9⟩, fun s hs => ?_⟩
  · obtain ⟨b1, b2, b3, b4⟩ := a7 k hk
    exact ⟨by rw [e _ _ (by omega)]; exact b1, b2, by rw [e _ _ (by omega)]; exact b3, b4⟩
  · obtain ⟨b1, b2⟩ := a10 s hs
    exact ⟨by rw [e _ _ (by omega)]; exact b1, b2⟩
theorem ct_M_asItIs {K : KF} {A : AS} {h : Hp} (hs : MS K h) (hd : MD' K A h) : Ct 0 md_M_asItIs [.ref 73] h (fun r h' => r = none ∧ MX K A h' ∧ Fr P7 h h') := by
  refine Ct_of 7 rfl rfl rfl (fun X C => ?_)
  obtain ⟨⟨hL, hL5⟩, -, -, -, ⟨hN, hN3⟩, -⟩ := id hs
  obtain ⟨d1, d2, d3⟩ := id hd
  have loop2 : ∀ (n i : Nat) (b : Int32) (hh : Hp), i + n = kN K → b = nI i → Fr P7 h hh → (∀ k, k < kL K → hh.1 78 k = nI (aD A k)) → (∀ s, s < i → hh.1 79 s = nI (aP A s) ∧ hh.1 80 s = nI (aQ A s)) → V X 34 [some (.ref 73), some (.int b)] [] hh := by
    intro n
    induction n with
    | zero =>
      intro i b hh hi hb hf h1 h2
      subst hb
      have e1 : hh.1 73 14 = nI i := by rw [hf.1 73 14 (by unfold P7; omega), hN]; congr 1; omega
      have e2 : hh.1 73 11 = aB A := by rw [hf.1 73 11 (by unfold P7; omega), d3]
      refine V_go C tk_M_asItIs [2, 34] 75 ?_
      refine And.intro (fun c39 => ?_) (fun c39 => ?_)
      · refine ⟨rfl, ⟨fun k hk => ⟨?_, (d1 k hk).2⟩, fun s hs => ⟨⟨?_, (d2 s hs).2.1⟩, ?_, (d2 s hs).2.2.2⟩, ?_⟩, hf.up (by unfold P7; omega)⟩
        · show up2 hh.1 73 19 (hh.1 73 11) 78 k = _
          rw [up2_a _ _ _ _ (by decide)]
          exact h1 k hk
        · show up2 hh.1 73 19 (hh.1 73 11) 79 s = _
          rw [up2_a _ _ _ _ (by decide)]
          exact (h2 s (by omega)).1
        · show up2 hh.1 73 19 (hh.1 73 11) 80 s = _
          rw [up2_a _ _ _ _ (by decide)]
          exact (h2 s (by omega)).2
        · show up2 hh.1 73 19 (hh.1 73 11) 73 19 = _
          rw [up2_s]
          exact e2
      · exact absurd (nle e1) c39
    | succ n ih =>
      intro i b hh hi hb hf h1 h2
      subst hb
      have e1 : hh.1 73 14 = nI (kN K) := by rw [hf.1 73 14 (by unfold P7; omega), hN]
      have e3 := nIc (i := i) (by omega)
      have e4 : ((3 : Int32) * nI i).toNatClampNeg = 3 * i := ix0c 3 i (by omega)
      have e5 : ((3 : Int32) * nI i + 2).toNatClampNeg = 3 * i + 2 := ixc 3 2 i (by omega)
      obtain ⟨q1, q2, q3, q4⟩ := d2 i (by omega)
      refine V_go C tk_M_asItIs [2, 34] 75 ?_
      refine And.intro (fun c39 => ?_) (fun c39 => ?_)
      · exact absurd c39 (nge (by omega) (by omega) e1)
      · refine And.intro ((ix0in 3 i 9 (by omega) (by decide))) ?_
        refine And.intro ((inn (by omega) (by decide))) ?_
        refine And.intro ((ixin 3 2 i 9 (by omega) (by decide))) ?_
        refine And.intro ((inn (by omega) (by decide))) ?_
        refine ih (i + 1) _ _ (by omega) (nI_1 i) ((hf.up (by unfold P7; rw [e3]; omega)).up (by unfold P7; rw [e3]; omega)) (fun k hk => ?_) (fun s hs => ?_)
        · simp only [up2, e3]
          simp
          exact h1 k hk
        · simp only [up2, e3, e4, e5]
          simp
          by_cases hsi : s = i
          · subst hsi
            simp
            rw [hf.1 77 (3 * s) (by unfold P7; omega), hf.1 77 (3 * s + 2) (by unfold P7; omega)]
            exact ⟨q1, q3⟩
          · simp [hsi]
            exact h2 s (by omega)
  have loop1 : ∀ (n i : Nat) (b : Int32) (hh : Hp), i + n = kL K → b = nI i → Fr P7 h hh → (∀ k, k < i → hh.1 78 k = nI (aD A k)) → V X 2 [some (.ref 73), some (.int b)] [] hh := by
    intro n
    induction n with
    | zero =>
      intro i b hh hi hb hf h1
      subst hb
      have e1 : hh.1 73 7 = nI i := by rw [hf.1 73 7 (by unfold P7; omega), hL]; congr 1; omega
      refine V_go C tk_M_asItIs [2, 34] 75 ?_
      refine And.intro (fun c7 => ?_) (fun c7 => ?_)
      · exact loop2 (kN K) 0 _ _ (by omega) rfl hf (fun k hk => h1 k (by omega)) (fun s hs => absurd hs (by omega))
      · exact absurd (nle e1) c7
    | succ n ih =>
      intro i b hh hi hb hf h1
      subst hb
      have e1 : hh.1 73 7 = nI (kL K) := by rw [hf.1 73 7 (by unfold P7; omega), hL]
      have e3 := nIc (i := i) (by omega)
      have e5 : ((5 : Int32) * nI i + 2).toNatClampNeg = 5 * i + 2 := ixc 5 2 i (by omega)
      refine V_go C tk_M_asItIs [2, 34] 75 ?_
      refine And.intro (fun c7 => ?_) (fun c7 => ?_)
      · exact absurd c7 (nge (by omega) (by omega) e1)
      · refine And.intro ((ixin 5 2 i 25 (by omega) (by decide))) ?_
        refine And.intro ((inn (by omega) (by decide))) ?_
        refine ih (i + 1) _ _ (by omega) (nI_1 i) (hf.up (by unfold P7; rw [e3]; omega)) (fun k hk => ?_)
        simp only [up2, e3, e5]
        by_cases hki : k = i
        · subst hki
          simp
          rw [hf.1 76 (5 * k + 2) (by unfold P7; omega)]
          exact (d1 k (by omega)).1
        · simp [hki]
          exact h1 k (by omega)
  refine V_go C tk_M_asItIs [2, 34] 75 ?_
  exact loop1 (kL K) 0 _ _ (by omega) rfl Fr.rf (fun k hk => absurd hk (by omega))

theorem near_iff {K : KF} {k x : Nat} (hp : kP K k < 10) (hr : kR K ≤ 9) (hx : x < 10) : (decide (-nI (kR K) ≤ nI x - nI (kP K k)) && decide (nI x - nI (kP K k) ≤ nI (kR K))) = near K k x := by
  have e1 : (nI x - nI (kP K k)).toInt = (x : Int) - kP K k := pk_sub_toInt (by omega) (by omega)
  have e2 : (-nI (kR K)).toInt = -(kR K : Int) := sb_negT (by omega)
  have e3 : (nI (kR K)).toInt = (kR K : Int) := nI_toI (by omega)
  unfold near
  simp only [Int32.le_iff_toInt_le, e1, e2, e3]
  congr 1
  · apply decide_eq_decide.mpr; omega
  · apply decide_eq_decide.mpr; omega
theorem ct_M_shinesOn {K : KF} {A : AS} {h : Hp} (hs : MS K h) (hx : ∀ k, k < kL K → h.1 78 k = nI (aD A k) ∧ aD A k ≤ 9) {x : Nat} (hx10 : x < 10) : Ct 1 md_M_shinesOn [.ref 73, .int (nI x)] h (ex (.int (nI (shine K A x))) h) := by
  refine Ct_of 7 rfl rfl rfl (fun X C => ?_)
  obtain ⟨⟨hL, hL5⟩, ⟨hR, hR9⟩, -, hk, -, -⟩ := id hs
  have loop : ∀ (n i : Nat) (a b : Int32) (w : Option Value), i + n = kL K → a = nI (cnt (fun k => litA A k && near K k x) i) → b = nI i → V X 4 [some (.ref 73), some (.int (nI x)), some (.int a), some (.int b), w] [] h := by
    intro n
    induction n with
    | zero =>
      intro i a b w hi ha hb
      subst hb
      refine V_go C tk_M_shinesOn [4] 65 ?_
      refine And.intro (fun c9 => ?_) (fun c9 => ?_)
      · exact ⟨by rw [ha, show i = kL K by omega]; rfl, rfl⟩
      · exact absurd (nle (by rw [hL]; congr 1; omega)) c9
    | succ n ih =>
      intro i a b w hi ha hb
      subst hb
      have hi5 : i < kL K := by omega
      have e3 := nIc (i := i) (by omega)
      have e5 : ((5 : Int32) * nI i + 1).toNatClampNeg = 5 * i + 1 := ixc 5 1 i (by omega)
      obtain ⟨-, -, q1, q2⟩ := hk i hi5
      obtain ⟨q3, q4⟩ := hx i hi5
      have e6 := near_iff (K := K) (k := i) q2 hR9 hx10
      have e7 : h.1 78 i = 0 ↔ aD A i = 0 := by rw [q3]; exact nI_eq0 (by omega)
      refine V_go C tk_M_shinesOn [4] 65 ?_
      refine And.intro (fun c9 => ?_) (fun c9 => ?_)
      · exact absurd c9 (nge (by omega) (by omega) hL)
      · refine And.intro ((ixin 5 1 i 25 (by omega) (by decide))) ?_
        refine And.intro ((inn (by omega) (by decide))) ?_
        refine And.intro (fun c33 => ?_) (fun c33 => ?_)
        · rw [e3, e7] at c33
          refine ih (i + 1) _ _ _ (by omega) ?_ (nI_1 i)
          rw [ha, show cnt (fun k => litA A k && near K k x) (i + 1) = cnt (fun k => litA A k && near K k x) i by simp [cnt, litA, c33]]
          exact nI_add _ 0
        · refine ⟨_, ⟨_, by decide, (ct_M_in32 _ _ _ h)⟩, fun r50 h50 p50 => ?_⟩
          obtain ⟨rfl, rfl⟩ := p50
          refine And.intro (fun c53 => ?_) (fun c53 => ?_)
          · rw [e3, e7] at c33
            refine ih (i + 1) _ _ _ (by omega) ?_ (nI_1 i)
            rw [tI_0, e5, q1, hR, e6] at c53
            rw [ha, show cnt (fun k => litA A k && near K k x) (i + 1) = cnt (fun k => litA A k && near K k x) i by simp [cnt, litA, c33, c53]]
            exact nI_add _ 0
          · rw [e3, e7] at c33
            refine ih (i + 1) _ _ _ (by omega) ?_ (nI_1 i)
            rw [tI_n, e5, q1, hR, e6] at c53
            rw [ha, show cnt (fun k => litA A k && near K k x) (i + 1) = cnt (fun k => litA A k && near K k x) i + 1 by simp [cnt, litA, c33, c53]]
            exact nI_1 _
  refine V_go C tk_M_shinesOn [4] 65 ?_
  exact loop (kL K) 0 _ _ _ (by omega) rfl rfl
