/-- the page -/
def RP (p : Nat) (pg : Nat → Int32) (h : Hp) : Prop := (h.1 73 1 = nI p ∧ p ≤ 18) ∧ ∀ j, j < p → h.1 74 j = pg j
def PPg (a b : Nat) : Prop := a = 74 ∨ (a = 73 ∧ b = 1)
theorem ct_M_blank {p : Nat} {pg : Nat → Int32} {h : Hp} (hr : RP p pg h) : Ct 0 md_M_blank [.ref 73] h (fun r h' => r = some (.int (nI p)) ∧ RP 0 pg h' ∧ Fr PPg h h') := by
  refine Ct_of 7 rfl rfl rfl (fun X C => ?_)
  refine V_go C tk_M_blank [] 28 ?_
  exact ⟨by rw [hr.1.1], ⟨⟨by simp [up2]; rfl, by omega⟩, fun j hj => absurd hj (by omega)⟩, Fr.rf.up (by unfold PPg; omega)⟩
def ltOk (c : Int32) : Bool := decide (1 ≤ c) && decide (c ≤ 126)
def ltV (p : Nat) (c : Int32) : Int32 := if ltOk c then (if p = 18 then -104 else nI (p + 1)) else -102
def ltP (p : Nat) (c : Int32) : Nat := if ltOk c && !(decide (p = 18)) then p + 1 else p
def ltG (p : Nat) (pg : Nat → Int32) (c : Int32) : Nat → Int32 := if ltOk c && !(decide (p = 18)) then (fun j => if j = p then c else pg j) else pg
theorem ct_M_letter {p : Nat} {pg : Nat → Int32} {h : Hp} (hr : RP p pg h) (c : Int32) : Ct 1 md_M_letter [.ref 73, .int c] h (fun r h' => r = some (.int (ltV p c)) ∧ RP (ltP p c) (ltG p pg c) h' ∧ Fr PPg h h') := by
  refine Ct_of 7 rfl rfl rfl (fun X C => ?_)
  obtain ⟨⟨hp, hp18⟩, hg⟩ := id hr
  have e18 : h.1 73 1 = 18 ↔ p = 18 := by rw [hp]; exact nI_eq (b := 18) (by omega) (by decide)
  cases hok : ltOk c with
  | false =>
    refine V_go C tk_M_letter [] 49 ?_
    refine ⟨_, ⟨_, by decide, (ct_M_in32 c 1 126 h)⟩, fun r6 h6 p6 => ?_⟩
    obtain ⟨rfl, rfl⟩ := p6
    refine And.intro (fun c9 => ?_) (fun c9 => ?_)
    · rw [tI_n] at c9; rw [show ltOk c = _ from c9] at hok; cases hok
    · exact ⟨by unfold ltV; rw [hok]; rfl, by unfold ltP ltG; rw [hok]; exact hr, Fr.rf⟩
  | true =>
  by_cases h18 : p = 18
  · skip
    refine V_go C tk_M_letter [] 49 ?_
    refine ⟨_, ⟨_, by decide, (ct_M_in32 c 1 126 h)⟩, fun r6 h6 p6 => ?_⟩
    obtain ⟨rfl, rfl⟩ := p6
    refine And.intro (fun c9 => ?_) (fun c9 => ?_)
    · refine And.intro (fun c21 => ?_) (fun c21 => ?_)
      · exact absurd (e18.mpr h18) c21
      · exact ⟨by unfold ltV; rw [hok, if_pos h18]; rfl, by unfold ltP ltG; rw [hok, decide_eq_true h18]; exact hr, Fr.rf⟩
    · rw [tI_0] at c9; rw [show ltOk c = _ from c9] at hok; cases hok
  · have ep : (h.1 73 1).toNatClampNeg = p := by rw [hp]; exact nIc (by omega)
    have o1 : ltP p c = p + 1 := by unfold ltP; rw [hok, decide_eq_false h18]; rfl
    have o2 : ltG p pg c = fun j => if j = p then c else pg j := by unfold ltG; rw [hok, decide_eq_false h18]; rfl
    rw [o1, o2] at C
    refine V_go C tk_M_letter [] 49 ?_
    refine ⟨_, ⟨_, by decide, (ct_M_in32 c 1 126 h)⟩, fun r6 h6 p6 => ?_⟩
    obtain ⟨rfl, rfl⟩ := p6
    refine And.intro (fun c9 => ?_) (fun c9 => ?_)
    · refine And.intro (fun c21 => ?_) (fun c21 => ?_)
      · refine And.intro (by rw [hp]; exact inn (by omega) (by decide)) ?_
        rw [ep]
        refine ⟨?_, ⟨⟨?_, by omega⟩, fun j hj => ?_⟩, (Fr.rf.up (by unfold PPg; omega)).up (by unfold PPg; omega)⟩
        · unfold ltV
          rw [hok, if_neg h18]
          simp [up2]
          rw [hp, nI_1]
        · simp [up2]
          rw [hp, nI_1]
        · by_cases hjp : j = p
          · subst hjp
            simp [up2]
          · simp [up2, hjp]
            exact hg j (by omega)
      · exact absurd (e18.mp c21) h18
    · rw [tI_0] at c9; rw [show ltOk c = _ from c9] at hok; cases hok
/-- what was heard: how much; of each the light, the fact, turned, the breath, yes -/
abbrev HD : Type := Nat × (Nat → Nat) × (Nat → Nat) × (Nat → Bool) × (Nat → Int32) × (Nat → Bool)
def dM (H : HD) : Nat := H.1
def dL (H : HD) : Nat → Nat := H.2.1
def dF (H : HD) : Nat → Nat := H.2.2.1
def dT (H : HD) : Nat → Bool := H.2.2.2.1
def dB (H : HD) : Nat → Int32 := H.2.2.2.2.1
def dY (H : HD) : Nat → Bool := H.2.2.2.2.2
def RH (arr fld : Nat) (H : HD) (h : Hp) : Prop := (h.1 73 fld = nI (dM H) ∧ dM H ≤ 8) ∧ ∀ i, i < dM H → (h.1 arr (5 * i + 0) = nI (dL H i) ∧ dL H i < 5) ∧ (h.1 arr (5 * i + 1) = nI (dF H i) ∧ dF H i < 4) ∧ h.1 arr (5 * i + 2) = tI (dT H i) ∧ h.1 arr (5 * i + 3) = dB H i ∧ h.1 arr (5 * i + 4) = tI (dY H i)
def PHd (a b : Nat) : Prop := a = 84 ∨ (a = 73 ∧ b = 23)
def hd0 (H : HD) : HD := (0, H.2)
theorem ct_M_forget {H : HD} {h : Hp} (hr : RH 84 23 H h) : Ct 0 md_M_forget [.ref 73] h (fun r h' => r = some (.int (nI (dM H))) ∧ RH 84 23 (hd0 H) h' ∧ Fr PHd h h') := by
  refine Ct_of 7 rfl rfl rfl (fun X C => ?_)
  refine V_go C tk_M_forget [] 28 ?_
  exact ⟨by rw [hr.1.1], ⟨⟨by simp [up2]; rfl, by show 0 ≤ 8; omega⟩, fun j hj => absurd hj (Nat.not_lt_zero j)⟩, Fr.rf.up (by unfold PHd; omega)⟩
def hrQ (K : KF) (H : HD) (k f b : Int32) : Bool := inR k (kL K) && inR f 4 && inR b 100 && !(decide (dM H = 8))
def hrV (K : KF) (H : HD) (k f b : Int32) : Int32 := if inR k (kL K) && inR f 4 then (if inR b 100 then (if dM H = 8 then -104 else nI (dM H + 1)) else -102) else -101
def hrH (K : KF) (H : HD) (k f : Int32) (t : Bool) (b : Int32) (y : Bool) : HD := bif hrQ K H k f b then (dM H + 1, fun i => if i = dM H then k.toNatClampNeg else dL H i, fun i => if i = dM H then f.toNatClampNeg else dF H i, fun i => if i = dM H then t else dT H i, fun i => if i = dM H then b else dB H i, fun i => if i = dM H then y else dY H i) else H
theorem ct_M_hear {K : KF} {H : HD} {h : Hp} (hs : MS K h) (hr : RH 84 23 H h) (k f : Int32) (t : Bool) (b : Int32) (y : Bool) : Ct 2 md_M_hear [.ref 73, .int k, .int f, .int (tI t), .int b, .int (tI y)] h (fun r h' => r = some (.int (hrV K H k f b)) ∧ RH 84 23 (hrH K H k f t b y) h' ∧ Fr PHd h h') := by
  refine Ct_of 7 rfl rfl rfl (fun X C => ?_)
  obtain ⟨⟨hm, hm8⟩, hg⟩ := id hr
  have e8 : h.1 73 23 = 8 ↔ dM H = 8 := by rw [hm]; exact nI_eq (b := 8) (by omega) (by decide)
  have eb : (decide (0 ≤ b) && decide (b ≤ 99)) = inR b 100 := inR_c (L := 100) rfl
  have out : hrQ K H k f b = false → hrH K H k f t b y = H := by intro hq; unfold hrH; rw [hq]; rfl
  cases hin : inR k (kL K) with
  | false =>
    rw [out (by unfold hrQ; rw [hin]; rfl)] at C
    refine V_go C tk_M_hear [] 108 ?_
    refine ⟨_, ⟨_, by decide, (ct_M_isLightR hs k)⟩, fun r2 h2 p2 => ?_⟩
    obtain ⟨rfl, rfl⟩ := p2
    refine And.intro (fun c5 => ?_) (fun c5 => ?_)
    · exact ⟨by unfold hrV; rw [hin]; rfl, hr, Fr.rf⟩
    · rw [hin] at c5; exact absurd rfl c5
  | true =>
  cases hif : inR f 4 with
  | false =>
    rw [out (by unfold hrQ; rw [hin, hif]; rfl)] at C
    refine V_go C tk_M_hear [] 108 ?_
    refine ⟨_, ⟨_, by decide, (ct_M_isLightR hs k)⟩, fun r2 h2 p2 => ?_⟩
    obtain ⟨rfl, rfl⟩ := p2
    refine And.intro (fun c5 => ?_) (fun c5 => ?_)
    · rw [hin] at c5; exact absurd c5 (by decide)
    · refine ⟨_, ⟨_, by decide, (ct_M_isFactR f h)⟩, fun r9 h9 p9 => ?_⟩
      obtain ⟨rfl, rfl⟩ := p9
      refine And.intro (fun c12 => ?_) (fun c12 => ?_)
      · rw [hif] at c12; exact absurd rfl c12
      · exact ⟨by unfold hrV; rw [hin, hif]; rfl, hr, Fr.rf⟩
  | true =>
  cases hib : inR b 100 with
  | false =>
    rw [out (by unfold hrQ; rw [hin, hif, hib]; rfl)] at C
    refine V_go C tk_M_hear [] 108 ?_
    refine ⟨_, ⟨_, by decide, (ct_M_isLightR hs k)⟩, fun r2 h2 p2 => ?_⟩
    obtain ⟨rfl, rfl⟩ := p2
    refine And.intro (fun c5 => ?_) (fun c5 => ?_)
    · rw [hin] at c5; exact absurd c5 (by decide)
    · refine ⟨_, ⟨_, by decide, (ct_M_isFactR f h)⟩, fun r9 h9 p9 => ?_⟩
      obtain ⟨rfl, rfl⟩ := p9
      refine And.intro (fun c12 => ?_) (fun c12 => ?_)
      · refine ⟨_, ⟨_, by decide, (ct_M_in32 b 0 99 h)⟩, fun r25 h25 p25 => ?_⟩
        obtain ⟨rfl, rfl⟩ := p25
        refine And.intro (fun c28 => ?_) (fun c28 => ?_)
        · rw [eb, hib] at c28; exact absurd rfl c28
        · exact ⟨by unfold hrV; rw [hin, hif, hib]; rfl, hr, Fr.rf⟩
      · rw [hif] at c12; exact absurd c12 (by decide)
  | true =>
  by_cases h8 : dM H = 8
  · rw [out (by unfold hrQ; rw [hin, hif, hib, decide_eq_true h8]; rfl)] at C
    refine V_go C tk_M_hear [] 108 ?_
    refine ⟨_, ⟨_, by decide, (ct_M_isLightR hs k)⟩, fun r2 h2 p2 => ?_⟩
    obtain ⟨rfl, rfl⟩ := p2
    refine And.intro (fun c5 => ?_) (fun c5 => ?_)
    · rw [hin] at c5; exact absurd c5 (by decide)
    · refine ⟨_, ⟨_, by decide, (ct_M_isFactR f h)⟩, fun r9 h9 p9 => ?_⟩
      obtain ⟨rfl, rfl⟩ := p9
      refine And.intro (fun c12 => ?_) (fun c12 => ?_)
      · refine ⟨_, ⟨_, by decide, (ct_M_in32 b 0 99 h)⟩, fun r25 h25 p25 => ?_⟩
        obtain ⟨rfl, rfl⟩ := p25
        refine And.intro (fun c28 => ?_) (fun c28 => ?_)
        · refine And.intro (fun c40 => ?_) (fun c40 => ?_)
          · exact absurd (e8.mpr h8) c40
          · exact ⟨by unfold hrV; rw [hin, hif, hib, if_pos h8]; rfl, hr, Fr.rf⟩
        · rw [eb, hib] at c28; exact absurd c28 (by decide)
      · rw [hif] at c12; exact absurd c12 (by decide)
  · obtain ⟨j, hj, rfl⟩ := inR_t hin
    obtain ⟨g, hg4, rfl⟩ := inR_t hif
    have hL5 := hs.1.2
    have ej := nIc (i := j) (by omega)
    have eg := nIc (i := g) (by omega)
    have hq : hrQ K H (nI j) (nI g) b = true := by unfold hrQ; rw [hin, hif, hib, decide_eq_false h8]; rfl
    have o : hrH K H (nI j) (nI g) t b y = (dM H + 1, fun i => if i = dM H then j else dL H i, fun i => if i = dM H then g else dF H i, fun i => if i = dM H then t else dT H i, fun i => if i = dM H then b else dB H i, fun i => if i = dM H then y else dY H i) := by unfold hrH; rw [hq, ej, eg]; rfl
    have ev : hrV K H (nI j) (nI g) b = nI (dM H + 1) := by unfold hrV; rw [hin, hif, hib, if_neg h8]; rfl
    rw [o, ev] at C
    have i0 : ((5 : Int32) * h.1 73 23).toNatClampNeg = 5 * dM H := by rw [hm]; exact ix0c 5 (dM H) (by omega)
    have i1 : ((5 : Int32) * h.1 73 23 + 1).toNatClampNeg = 5 * dM H + 1 := by rw [hm]; exact ixc 5 1 (dM H) (by omega)
    have i2 : ((5 : Int32) * h.1 73 23 + 2).toNatClampNeg = 5 * dM H + 2 := by rw [hm]; exact ixc 5 2 (dM H) (by omega)
    have i3 : ((5 : Int32) * h.1 73 23 + 3).toNatClampNeg = 5 * dM H + 3 := by rw [hm]; exact ixc 5 3 (dM H) (by omega)
    have i4 : ((5 : Int32) * h.1 73 23 + 4).toNatClampNeg = 5 * dM H + 4 := by rw [hm]; exact ixc 5 4 (dM H) (by omega)
    have fin : ∀ v2 v4 : Int32, v2 = tI t → v4 = tI y → ∀ z : Hp, z = (up2 (up2 (up2 (up2 (up2 (up2 h.1 84 (5 * dM H) (nI j)) 84 (5 * dM H + 1) (nI g)) 84 (5 * dM H + 2) v2) 84 (5 * dM H + 3) b) 84 (5 * dM H + 4) v4) 73 23 (nI (dM H + 1)), h.2) → (RH 84 23 (dM H + 1, fun i => if i = dM H then j else dL H i, fun i => if i = dM H then g else dF H i, fun i => if i = dM H then t else dT H i, fun i => if i = dM H then b else dB H i, fun i => if i = dM H then y else dY H i) z ∧ Fr PHd h z) := by
      intro v2 v4 hv2 hv4 z hz
      subst hz
      subst hv2
      subst hv4
      refine ⟨⟨⟨by simp [up2]; rfl, by show dM H + 1 ≤ 8; omega⟩, fun i hi => ?_⟩, (((((Fr.rf.up (by unfold PHd; omega)).up (by unfold PHd; omega)).up (by unfold PHd; omega)).up (by unfold PHd; omega)).up (by unfold PHd; omega)).up (by unfold PHd; omega)⟩
      have hi' : i < dM H + 1 := hi
      show (_ = nI (if i = dM H then j else dL H i) ∧ (if i = dM H then j else dL H i) < 5) ∧ (_ = nI (if i = dM H then g else dF H i) ∧ (if i = dM H then g else dF H i) < 4) ∧ _ = tI (if i = dM H then t else dT H i) ∧ _ = (if i = dM H then b else dB H i) ∧ _ = tI (if i = dM H then y else dY H i)
      by_cases him : i = dM H
      · subst him
        simp [up2]
        omega
      · have h1 : ∀ c d, c < 5 → d < 5 → 5 * i + c ≠ 5 * dM H + d := fun c d _ _ => by omega
        have h7 : (84 : Nat) ≠ 73 := by decide
        have q := hg i (by omega)
        have n0 : ∀ d, d < 5 → 5 * i ≠ 5 * dM H + d := fun d _ => by omega
        have n00 : 5 * i ≠ 5 * dM H := by omega
        have n10 : 5 * i + 1 ≠ 5 * dM H := by omega
        have n20 : 5 * i + 2 ≠ 5 * dM H := by omega
        have n30 : 5 * i + 3 ≠ 5 * dM H := by omega
        have n40 : 5 * i + 4 ≠ 5 * dM H := by omega
        simp only [up2, h7, him, Nat.add_zero, n00, n10, n20, n30, n40, n0 1 (by decide), n0 2 (by decide), n0 3 (by decide), n0 4 (by decide), h1 1 1 (by decide) (by decide), h1 1 2 (by decide) (by decide), h1 1 3 (by decide) (by decide), h1 1 4 (by decide) (by decide), h1 2 1 (by decide) (by decide), h1 2 2 (by decide) (by decide), h1 2 3 (by decide) (by decide), h1 2 4 (by decide) (by decide), h1 3 1 (by decide) (by decide), h1 3 2 (by decide) (by decide), h1 3 3 (by decide) (by decide), h1 3 4 (by decide) (by decide), h1 4 1 (by decide) (by decide), h1 4 2 (by decide) (by decide), h1 4 3 (by decide) (by decide), h1 4 4 (by decide) (by decide), and_false, false_and, if_false]
        exact q
    refine V_go C tk_M_hear [] 108 ?_
    refine ⟨_, ⟨_, by decide, (ct_M_isLightR hs (nI j))⟩, fun r2 h2 p2 => ?_⟩
    obtain ⟨rfl, rfl⟩ := p2
    refine And.intro (fun c5 => ?_) (fun c5 => ?_)
    · rw [hin] at c5; exact absurd c5 (by decide)
    · refine ⟨_, ⟨_, by decide, (ct_M_isFactR (nI g) h)⟩, fun r9 h9 p9 => ?_⟩
      obtain ⟨rfl, rfl⟩ := p9
      refine And.intro (fun c12 => ?_) (fun c12 => ?_)
      · refine ⟨_, ⟨_, by decide, (ct_M_in32 b 0 99 h)⟩, fun r25 h25 p25 => ?_⟩
        obtain ⟨rfl, rfl⟩ := p25
        refine And.intro (fun c28 => ?_) (fun c28 => ?_)
        · refine And.intro (fun c40 => ?_) (fun c40 => ?_)
          · refine And.intro (by rw [hm]; exact ix0in 5 (dM H) 40 (by omega) (by decide)) ?_
            refine And.intro (by show vp_in ((5 : Int32) * h.1 73 23 + 1) 40; rw [hm]; exact ixin 5 1 (dM H) 40 (by omega) (by decide)) ?_
            refine And.intro (fun c85 => ?_) (fun c85 => ?_)
            · refine And.intro (by show vp_in ((5 : Int32) * h.1 73 23 + 2) 40; rw [hm]; exact ixin 5 2 (dM H) 40 (by omega) (by decide)) ?_
              refine And.intro (by show vp_in ((5 : Int32) * h.1 73 23 + 3) 40; rw [hm]; exact ixin 5 3 (dM H) 40 (by omega) (by decide)) ?_
              refine And.intro (fun c123 => ?_) (fun c123 => ?_)
              · refine And.intro (by show vp_in ((5 : Int32) * h.1 73 23 + 4) 40; rw [hm]; exact ixin 5 4 (dM H) 40 (by omega) (by decide)) ?_
                rw [tI_0] at c85
                rw [tI_0] at c123
                refine ⟨?_, fin 0 0 (by rw [c85]; rfl) (by rw [c123]; rfl) _ ?_⟩
                · simp only [up2]
                  simp [hm, nI_1]
                · rw [i0]
                  simp only [up2_a _ _ _ _ (show (73 : Nat) ≠ 84 by decide), i1, i2, i3, i4]
                  rw [hm, nI_1]
              · refine And.intro (by show vp_in ((5 : Int32) * h.1 73 23 + 4) 40; rw [hm]; exact ixin 5 4 (dM H) 40 (by omega) (by decide)) ?_
                rw [tI_0] at c85
                rw [tI_n] at c123
                refine ⟨?_, fin 0 1 (by rw [c85]; rfl) (by rw [c123]; rfl) _ ?_⟩
                · simp only [up2]
                  simp [hm, nI_1]
                · rw [i0]
                  simp only [up2_a _ _ _ _ (show (73 : Nat) ≠ 84 by decide), i1, i2, i3, i4]
                  rw [hm, nI_1]
            · refine And.intro (by show vp_in ((5 : Int32) * h.1 73 23 + 2) 40; rw [hm]; exact ixin 5 2 (dM H) 40 (by omega) (by decide)) ?_
              refine And.intro (by show vp_in ((5 : Int32) * h.1 73 23 + 3) 40; rw [hm]; exact ixin 5 3 (dM H) 40 (by omega) (by decide)) ?_
              refine And.intro (fun c123 => ?_) (fun c123 => ?_)
              · refine And.intro (by show vp_in ((5 : Int32) * h.1 73 23 + 4) 40; rw [hm]; exact ixin 5 4 (dM H) 40 (by omega) (by decide)) ?_
                rw [tI_n] at c85
                rw [tI_0] at c123
                refine ⟨?_, fin 1 0 (by rw [c85]; rfl) (by rw [c123]; rfl) _ ?_⟩
                · simp only [up2]
                  simp [hm, nI_1]
                · rw [i0]
                  simp only [up2_a _ _ _ _ (show (73 : Nat) ≠ 84 by decide), i1, i2, i3, i4]
                  rw [hm, nI_1]
              · refine And.intro (by show vp_in ((5 : Int32) * h.1 73 23 + 4) 40; rw [hm]; exact ixin 5 4 (dM H) 40 (by omega) (by decide)) ?_
                rw [tI_n] at c85
                rw [tI_n] at c123
                refine ⟨?_, fin 1 1 (by rw [c85]; rfl) (by rw [c123]; rfl) _ ?_⟩
                · simp only [up2]
                  simp [hm, nI_1]
                · rw [i0]
                  simp only [up2_a _ _ _ _ (show (73 : Nat) ≠ 84 by decide), i1, i2, i3, i4]
                  rw [hm, nI_1]
          · exact absurd (e8.mp c40) h8
        · rw [eb, hib] at c28; exact absurd c28 (by decide)
      · rw [hif] at c12; exact absurd c12 (by decide)
