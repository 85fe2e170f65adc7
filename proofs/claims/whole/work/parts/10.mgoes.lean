def P1 (a b : Nat) : Prop := (a = 79 ∧ b < 3) ∨ (a = 80 ∧ b < 3)
def P2 (a b : Nat) : Prop := (a = 78 ∧ b < 5) ∨ (a = 79 ∧ b < 3) ∨ (a = 80 ∧ b < 3)
/-- ships before i have gone -/
def GI (K : KF) (A : AS) (i : Nat) (hh : Hp) : Prop := ∀ s, s < kN K → (s < i → hh.1 79 s = nI (newP K A s) ∧ hh.1 80 s = nI (newQ K A s)) ∧ (i ≤ s → hh.1 79 s = nI (aP A s) ∧ hh.1 80 s = nI (aQ A s))
theorem GI_step {K : KF} {A : AS} {i : Nat} {hh : Hp} {w v : Int32} (g : GI K A i hh) (hw : w = nI (newQ K A i)) (hv : v = nI (newP K A i)) : GI K A (i + 1) (up2 (up2 hh.1 80 i w) 79 i v, hh.2) := by
  intro s hs
  obtain ⟨g1, g2⟩ := g s hs
  refine ⟨fun h1 => ?_, fun h1 => ?_⟩
  · by_cases hsi : s = i
    · subst hsi
      simp [up2]
      exact ⟨hv, hw⟩
    · simp [up2, hsi]
      exact g1 (by omega)
  · have hsi : s ≠ i := by omega
    simp [up2, hsi]
    exact g2 (by omega)
theorem toP_i {K : KF} {A : AS} {s : Nat} (h1 : aP A s < 10) (h2 : -1 ≤ kC K s ∧ kC K s ≤ 1) : nI (aP A s) + Int32.ofInt (kC K s) = Int32.ofInt (toP K A s) := by
  rw [← ofInt_nat, ← Int32.ofInt_add]
  rfl
theorem ct_M_goesBy {K : KF} {A : AS} {h : Hp} (hs : MS K h) (hx : MX K A h) : Ct 2 md_M_goesBy [.ref 73] h (fun r h' => r = some (.int (nI (lostN K A))) ∧ MX K (stepA K A) h' ∧ Fr P7 h h') := by
  refine Ct_of 7 rfl rfl rfl (fun X C => ?_)
  obtain ⟨⟨hL, hL5⟩, -, -, -, ⟨hN, hN3⟩, hc⟩ := id hs
  obtain ⟨x1, x2, x3⟩ := id hx
  have loop2 : ∀ (n i : Nat) (b : Int32) (w : Option Value) (hh : Hp), i + n = kL K → b = nI i → Fr P2 h hh → GI K A (kN K) hh → (∀ k, k < kL K → (k < i → hh.1 78 k = nI (aD A k - 1)) ∧ (i ≤ k → hh.1 78 k = nI (aD A k))) → V X 125 [some (.ref 73), some (.int (nI (lostN K A))), some (.int b), w] [] hh := by
    intro n
    induction n with
    | zero =>
      intro i b w hh hi hb hf hg h1
      subst hb
      have e1 : hh.1 73 7 = nI i := by rw [hf.1 73 7 (by unfold P2; omega), hL]; congr 1; omega
      have e2 : hh.1 73 19 = aB A := by rw [hf.1 73 19 (by unfold P2; omega), x3]
      refine V_go C tk_M_goesBy [4, 125] 126 ?_
      refine And.intro (fun c130 => ?_) (fun c130 => ?_)
      · refine ⟨rfl, ⟨fun k hk => ⟨?_, ?_⟩, fun s hs => ⟨⟨?_, newP_lt K A (x2 s hs).1.2⟩, ?_, newQ_le K A (x2 s hs).2.2⟩, ?_⟩, (hf.mono (fun a b h9 => by unfold P2 at h9; unfold P7; omega)).up (by unfold P7; omega)⟩
        · simp [up2]
          exact (h1 k hk).1 (by omega)
        · have := (x1 k hk).2
          show aD A k - 1 ≤ 9
          omega
        · simp [up2]
          exact ((hg s hs).1 hs).1
        · simp [up2]
          exact ((hg s hs).1 hs).2
        · simp [up2]
          rw [e2]
          rfl
      · exact absurd (nle e1) c130
    | succ n ih =>
      intro i b w hh hi hb hf hg h1
      subst hb
      have hi5 : i < kL K := by omega
      have e1 : hh.1 73 7 = nI (kL K) := by rw [hf.1 73 7 (by unfold P2; omega), hL]
      have e3 := nIc (i := i) (by omega)
      obtain ⟨q3, q4⟩ := x1 i hi5
      have e4 : hh.1 78 i = nI (aD A i) := (h1 i hi5).2 (Nat.le_refl i)
      have stp : ∀ v : Int32, v = nI (aD A i - 1) → V X 125 [some (.ref 73), some (.int (nI (lostN K A))), some (.int (nI i + 1)), w] [] (up2 hh.1 78 i v, hh.2) := by
        intro v hv
        refine ih (i + 1) _ _ _ (by omega) (nI_1 i) (hf.up (by unfold P2; omega)) (fun s hs => ?_) (fun k hk => ?_)
        · have := hg s hs
          simp [up2]
          exact this
        · refine ⟨fun h2 => ?_, fun h2 => ?_⟩
          · by_cases hki : k = i
            · subst hki
              simp [up2]
              exact hv
            · simp [up2, hki]
              exact (h1 k hk).1 (by omega)
          · have hki : k ≠ i := by omega
            simp [up2, hki]
            exact (h1 k hk).2 (by omega)
      refine V_go C tk_M_goesBy [4, 125] 126 ?_
      refine And.intro (fun c130 => ?_) (fun c130 => ?_)
      · exact absurd c130 (nge (by omega) (by omega) e1)
      · refine And.intro (inn (by omega) (by decide)) ?_
        refine And.intro (inn (by omega) (by decide)) ?_
        refine And.intro (fun c146 => ?_) (fun c146 => ?_)
        · refine And.intro (inn (by omega) (by decide)) ?_
          rw [e3, e4] at c146
          have h0 : aD A i = 0 := by
            rcases Nat.eq_zero_or_pos (aD A i) with h9 | h9
            · exact h9
            · exact absurd c146 (nI_nle h9 (by omega))
          have := stp (hh.1 78 i - 0) (by rw [e4, h0]; rfl)
          rw [← e3] at this
          rw [e3] at this ⊢
          exact this
        · refine And.intro (inn (by omega) (by decide)) ?_
          rw [e3, e4] at c146
          have h0 : 0 < aD A i := by
            rcases Nat.eq_zero_or_pos (aD A i) with h9 | h9
            · exact absurd (by rw [h9]; decide) c146
            · exact h9
          have := stp (hh.1 78 i - 1) (by rw [e4]; exact pk_sub (b := 1) h0)
          rw [← e3] at this
          rw [e3] at this ⊢
          exact this
  have loop1 : ∀ (n i : Nat) (a b : Int32) (w : Option Value) (hh : Hp), i + n = kN K → a = nI (cnt (fun s => decide (aQ A s = 0) && decide (newQ K A s = 2)) i) → b = nI i → Fr P1 h hh → GI K A i hh → V X 4 [some (.ref 73), some (.int a), some (.int b), w] [] hh := by
    intro n
    induction n with
    | zero =>
      intro i a b w hh hi ha hb hf hg
      subst hb
      have hi' : i = kN K := by omega
      subst hi'
      have e1 : hh.1 73 14 = nI (kN K) := by rw [hf.1 73 14 (by unfold P1; omega), hN]
      subst ha
      refine V_go C tk_M_goesBy [4, 125] 126 ?_
      refine And.intro (fun c9 => ?_) (fun c9 => ?_)
      · refine loop2 (kL K) 0 _ _ _ (by omega) rfl (hf.mono (fun a b h9 => by unfold P1 at h9; unfold P2; omega)) hg (fun k hk => ⟨fun h2 => absurd h2 (by omega), fun _ => ?_⟩)
        rw [hf.1 78 k (by unfold P1; omega)]
        exact (x1 k hk).1
      · exact absurd (nle e1) c9
    | succ n ih =>
      intro i a b w hh hi ha hb hf hg
      subst hb
      have hi3 : i < kN K := by omega
      have e1 : hh.1 73 14 = nI (kN K) := by rw [hf.1 73 14 (by unfold P1; omega), hN]
      have e3 := nIc (i := i) (by omega)
      have e5 : ((3 : Int32) * nI i + 1).toNatClampNeg = 3 * i + 1 := ixc 3 1 i (by omega)
      obtain ⟨⟨q1, q2⟩, q3, q4⟩ := x2 i hi3
      obtain ⟨q5, q6⟩ := hc i hi3
      obtain ⟨g1, g2⟩ := (hg i hi3).2 (Nat.le_refl i)
      have e6 : hh.1 77 (3 * i + 1) = Int32.ofInt (kC K i) := by rw [hf.1 77 _ (by unfold P1; omega)]; exact q5
      have hsh : MS K hh := hs.fr hf (fun a b h9 => by unfold P1 at h9; omega)
      have h78 : ∀ k, k < kL K → hh.1 78 k = nI (aD A k) ∧ aD A k ≤ 9 := fun k hk => by rw [hf.1 78 k (by unfold P1; omega)]; exact x1 k hk
      have etp := toP_i (K := K) (A := A) (s := i) q2 q6
      have etr : -1 ≤ toP K A i ∧ toP K A i ≤ 10 := by unfold toP; omega
      have eti : (Int32.ofInt (toP K A i)).toInt = toP K A i := toInt_ofInt (by omega) (by omega)
      -- behind the choice of how it is
      have mid : aQ A i = 0 → ∀ (t q : Int32), t = Int32.ofInt (toP K A i) → q = nI (newQ K A i) → V X 73 [some (.ref 73), some (.int a), some (.int (nI i)), some (.int t)] [.int q, .int (nI i), .ref 80] hh := by
        intro h0 t q ht hq
        have hq2 : q = 2 ↔ newQ K A i = 2 := by
          have := newQ_le K A q4
          rw [hq]
          exact nI_eq (b := 2) (by omega) (by decide)
        have hq0 : q = 0 ↔ newQ K A i = 0 := by
          have := newQ_le K A q4
          rw [hq]
          exact nI_eq0 (by omega)
        have enp : newQ K A i = 0 → t = nI (newP K A i) := fun h9 => by
          unfold newP
          rw [if_pos ⟨h0, h9⟩, ht]
          have : ¬ (toP K A i < 0 ∨ 9 < toP K A i) := by
            intro hn
            unfold newQ at h9
            rw [if_pos h0, if_pos hn] at h9
            omega
          rw [← ofInt_nat, Int.toNat_of_nonneg (by omega)]
        have enp2 : ¬ newQ K A i = 0 → nI (aP A i) = nI (newP K A i) := fun h9 => by
          unfold newP
          rw [if_neg (fun h => h9 h.2)]
        have ecn : cnt (fun s => decide (aQ A s = 0) && decide (newQ K A s = 2)) (i + 1) = cnt (fun s => decide (aQ A s = 0) && decide (newQ K A s = 2)) i + (if newQ K A i = 2 then 1 else 0) := by
          simp only [cnt, h0]
          by_cases h9 : newQ K A i = 2 <;> simp [h9]
        have fin : ∀ (a' v : Int32), a' = nI (cnt (fun s => decide (aQ A s = 0) && decide (newQ K A s = 2)) (i + 1)) → v = nI (newP K A i) → V X 4 [some (.ref 73), some (.int a'), some (.int (nI i + 1)), some (.int t)] [] (up2 (up2 hh.1 80 i q) 79 i v, hh.2) := fun a' v ha' hv =>
          ih (i + 1) _ _ _ _ (by omega) ha' (nI_1 i) ((hf.up (by unfold P1; omega)).up (by unfold P1; omega)) (GI_step hg hq hv)
        have er : up2 hh.1 80 i q 80 i = q := up2_s _ _ _ _
        have er2 : up2 hh.1 80 i q 79 i = nI (aP A i) := by rw [up2_a _ _ _ _ (by decide)]; exact g1
        refine V_go C tk_M_goesBy [4, 125] 126 ?_
        refine And.intro (inn (by omega) (by decide)) ?_
        refine And.intro (inn (by omega) (by decide)) ?_
        refine And.intro (fun c82 => ?_) (fun c82 => ?_)
        · refine And.intro (inn (by omega) (by decide)) ?_
          refine And.intro (fun c103 => ?_) (fun c103 => ?_)
          · refine And.intro (inn (by omega) (by decide)) ?_
            refine And.intro (inn (by omega) (by decide)) ?_
            rw [e3] at c82 c103
            rw [show (up2 hh.1 80 i q, hh.2).1 80 i = q from er] at c82 c103
            have := fin (a + 0) (up2 hh.1 80 i q 79 i) (by rw [ha, ecn, if_neg (fun h => c82 (hq2.mpr h))]; exact nI_add _ 0) (by rw [er2]; exact enp2 (fun h => c103 (hq0.mpr h)))
            rw [← e3] at this
            rw [e3] at this ⊢
            exact this
          · refine And.intro (inn (by omega) (by decide)) ?_
            rw [e3] at c82 c103
            rw [show (up2 hh.1 80 i q, hh.2).1 80 i = q from er] at c82 c103
            have := fin (a + 0) t (by rw [ha, ecn, if_neg (fun h => c82 (hq2.mpr h))]; exact nI_add _ 0) (enp (hq0.mp c103))
            rw [← e3] at this
            rw [e3] at this ⊢
            exact this
        · refine And.intro (inn (by omega) (by decide)) ?_
          refine And.intro (fun c103 => ?_) (fun c103 => ?_)
          · refine And.intro (inn (by omega) (by decide)) ?_
            refine And.intro (inn (by omega) (by decide)) ?_
            rw [e3] at c82 c103
            rw [show (up2 hh.1 80 i q, hh.2).1 80 i = q from er] at c82 c103
            have := fin (a + 1) (up2 hh.1 80 i q 79 i) (by rw [ha, ecn, if_pos (hq2.mp c82)]; exact nI_1 _) (by rw [er2]; exact enp2 (fun h => c103 (hq0.mpr h)))
            rw [← e3] at this
            rw [e3] at this ⊢
            exact this
          · refine And.intro (inn (by omega) (by decide)) ?_
            rw [e3] at c82 c103
            rw [show (up2 hh.1 80 i q, hh.2).1 80 i = q from er] at c82 c103
            rw [c82] at c103
            exact absurd c103 (by decide)
      have mid0 : aQ A i = 0 → ∀ t : Int32, t = Int32.ofInt (toP K A i) → V X 39 [some (.ref 73), some (.int a), some (.int (nI i)), some (.int t)] [] hh := by
        intro h0 t ht
        have hin : (decide (0 ≤ t) && decide (t ≤ 9)) = decide (¬ (toP K A i < 0 ∨ 9 < toP K A i)) := by
          rw [ht]
          simp only [Int32.le_iff_toInt_le, eti]
          rw [← Bool.decide_and]
          apply decide_eq_decide.mpr
          rw [show (0 : Int32).toInt = 0 from rfl, show (9 : Int32).toInt = 9 from rfl]
          omega
        by_cases hr : toP K A i < 0 ∨ 9 < toP K A i
        · have en : newQ K A i = 1 := by unfold newQ; rw [if_pos h0, if_pos hr]
          refine V_go C tk_M_goesBy [4, 73, 125] 126 ?_
          refine ⟨_, ⟨_, by decide, (ct_M_in32 t 0 9 hh)⟩, fun r50 h50 p50 => ?_⟩
          obtain ⟨rfl, rfl⟩ := p50
          refine And.intro (fun c53 => ?_) (fun c53 => ?_)
          · rw [tI_n, hin, decide_eq_false (fun h => h hr)] at c53; cases c53
          · exact mid h0 t _ ht (by rw [en]; rfl)
        · obtain ⟨x, hx10, htx⟩ : ∃ x : Nat, x < 10 ∧ toP K A i = x := ⟨(toP K A i).toNat, by omega, by omega⟩
          have ht2 : t = nI x := by rw [ht, htx]; rfl
          have en : newQ K A i = if shine K A x = 0 then 2 else 0 := by
            unfold newQ
            rw [if_pos h0, if_neg hr, htx]
            rfl
          have hsl : shine K A x ≤ kL K := cnt_le _ _
          subst ht2
          refine V_go C tk_M_goesBy [4, 73, 125] 126 ?_
          refine ⟨_, ⟨_, by decide, (ct_M_in32 (nI x) 0 9 hh)⟩, fun r50 h50 p50 => ?_⟩
          obtain ⟨rfl, rfl⟩ := p50
          refine And.intro (fun c53 => ?_) (fun c53 => ?_)
          · refine ⟨_, ⟨_, by decide, (ct_M_shinesOn (x := x) hsh h78 hx10)⟩, fun r62 h62 p62 => ?_⟩
            obtain ⟨rfl, rfl⟩ := p62
            refine And.intro (fun c65 => ?_) (fun c65 => ?_)
            · rw [nI_eq0 (by omega)] at c65
              exact mid h0 _ _ ht (by rw [en, if_neg c65]; rfl)
            · rw [nI_eq0 (by omega)] at c65
              exact mid h0 _ _ ht (by rw [en, if_pos c65]; rfl)
          · rw [tI_0, hin, decide_eq_true hr] at c53; cases c53
      have eq0 : hh.1 80 i = 0 ↔ aQ A i = 0 := by rw [g2]; exact nI_eq0 (by omega)
      refine V_go C tk_M_goesBy [4, 39, 125] 126 ?_
      refine And.intro (fun c9 => ?_) (fun c9 => ?_)
      · exact absurd c9 (nge (by omega) (by omega) e1)
      · refine And.intro (inn (by omega) (by decide)) ?_
        refine And.intro (fun c18 => ?_) (fun c18 => ?_)
        · rw [e3, eq0] at c18
          refine ih (i + 1) _ _ _ _ (by omega) ?_ (nI_1 i) hf (fun s hs => ⟨fun h9 => ?_, fun h9 => (hg s hs).2 (by omega)⟩)
          · rw [ha]
            simp [cnt, c18]
          · by_cases hsi : s = i
            · subst hsi
              have n1 : newQ K A s = aQ A s := by unfold newQ; rw [if_neg c18]
              have n2 : newP K A s = aP A s := by unfold newP; rw [if_neg (fun h => c18 h.1)]
              rw [n1, n2]
              exact ⟨g1, g2⟩
            · exact (hg s hs).1 (by omega)
        · refine And.intro (inn (by omega) (by decide)) ?_
          refine And.intro ((ixin 3 1 i 9 (by omega) (by decide))) ?_
          rw [e3, eq0] at c18
          exact mid0 c18 _ (by rw [e3, e5, g1, e6]; exact etp)
  refine V_go C tk_M_goesBy [4, 125] 126 ?_
  refine loop1 (kN K) 0 _ _ _ _ (by omega) rfl rfl Fr.rf (fun s hs => ⟨fun h => absurd h (by omega), fun _ => ⟨(x2 s hs).1.1, (x2 s hs).2.1⟩⟩)
