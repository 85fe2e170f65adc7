/-! ===== the reference: counts, image, restore ===== -/
theorem ct_M_shipsThat {K : KF} {A : AS} {q3 q4 : Nat → Int32} {F : Nat} {h : Hp} (hr : RN K A q3 q4 F h) {w : Nat} (hw : w < 10) : Ct 0 md_M_shipsThat [.ref 73, .int (nI w)] h (ex (.int (nI (cnt (fun s => decide (aQ A s = w)) (kN K)))) h) := by
  refine Ct_of 7 rfl rfl rfl (fun X C => ?_)
  obtain ⟨-, -, -, -, ⟨hN, hN3⟩, -⟩ := id hr.1
  have loop : ∀ (n i : Nat) (a b : Int32), i + n = kN K → a = nI (cnt (fun s => decide (aQ A s = w)) i) → b = nI i → V X 4 [some (.ref 73), some (.int (nI w)), some (.int a), some (.int b)] [] h := by
    intro n
    induction n with
    | zero =>
      intro i a b hi ha hb
      subst hb
      refine V_go C tk_M_shipsThat [4] 48 ?_
      refine And.intro (fun c9 => ?_) (fun c9 => ?_)
      · exact ⟨by rw [ha, show i = kN K by omega], rfl⟩
      · exact absurd (nle (by rw [hN]; congr 1; omega)) c9
    | succ n ih =>
      intro i a b hi ha hb
      subst hb
      have i2 : ((3 : Int32) * nI i + 2).toNatClampNeg = 3 * i + 2 := ixc 3 2 i (by omega)
      obtain ⟨-, -, b3, b4⟩ := hr.2.1.2.1 i (by omega)
      have e : h.1 77 (3 * i + 2) = nI w ↔ aQ A i = w := by rw [b3]; exact nI_eq (by omega) (by omega)
      refine V_go C tk_M_shipsThat [4] 48 ?_
      refine And.intro (fun c9 => ?_) (fun c9 => ?_)
      · exact absurd c9 (nge (by omega) (by omega) hN)
      · refine And.intro ((ixin 3 2 i 9 (by omega) (by decide))) ?_
        refine And.intro (fun c24 => ?_) (fun c24 => ?_)
        · rw [i2, e] at c24
          refine ih (i + 1) _ _ (by omega) ?_ (nI_1 i)
          rw [ha, show cnt (fun s => decide (aQ A s = w)) (i + 1) = cnt (fun s => decide (aQ A s = w)) i by simp [cnt, c24]]
          exact nI_add _ 0
        · rw [i2, e] at c24
          refine ih (i + 1) _ _ (by omega) ?_ (nI_1 i)
          rw [ha, show cnt (fun s => decide (aQ A s = w)) (i + 1) = cnt (fun s => decide (aQ A s = w)) i + 1 by simp [cnt, c24]]
          exact nI_1 _
  refine V_go C tk_M_shipsThat [4] 48 ?_
  exact loop (kN K) 0 _ _ (by omega) rfl rfl
theorem ct_M_litMany {K : KF} {A : AS} {q3 q4 : Nat → Int32} {F : Nat} {h : Hp} (hr : RN K A q3 q4 F h) : Ct 0 md_M_litMany [.ref 73] h (ex (.int (nI (cnt (litA A) (kL K)))) h) := by
  refine Ct_of 7 rfl rfl rfl (fun X C => ?_)
  obtain ⟨⟨hL, hL5⟩, -⟩ := id hr.1
  have loop : ∀ (n i : Nat) (a b : Int32), i + n = kL K → a = nI (cnt (litA A) i) → b = nI i → V X 4 [some (.ref 73), some (.int a), some (.int b)] [] h := by
    intro n
    induction n with
    | zero =>
      intro i a b hi ha hb
      subst hb
      refine V_go C tk_M_litMany [4] 47 ?_
      refine And.intro (fun c9 => ?_) (fun c9 => ?_)
      · exact ⟨by rw [ha, show i = kL K by omega], rfl⟩
      · exact absurd (nle (by rw [hL]; congr 1; omega)) c9
    | succ n ih =>
      intro i a b hi ha hb
      subst hb
      have i2 : ((5 : Int32) * nI i + 2).toNatClampNeg = 5 * i + 2 := ixc 5 2 i (by omega)
      obtain ⟨b3, b4⟩ := hr.2.1.1 i (by omega)
      have e : h.1 76 (5 * i + 2) = 0 ↔ aD A i = 0 := by rw [b3]; exact nI_eq0 (by omega)
      refine V_go C tk_M_litMany [4] 47 ?_
      refine And.intro (fun c9 => ?_) (fun c9 => ?_)
      · exact absurd c9 (nge (by omega) (by omega) hL)
      · refine And.intro ((ixin 5 2 i 25 (by omega) (by decide))) ?_
        refine And.intro (fun c23 => ?_) (fun c23 => ?_)
        · rw [i2, e] at c23
          refine ih (i + 1) _ _ (by omega) ?_ (nI_1 i)
          rw [ha, show cnt (litA A) (i + 1) = cnt (litA A) i by simp [cnt, litA, c23]]
          exact nI_add _ 0
        · rw [i2, e] at c23
          refine ih (i + 1) _ _ (by omega) ?_ (nI_1 i)
          rw [ha, show cnt (litA A) (i + 1) = cnt (litA A) i + 1 by simp [cnt, litA, c23]]
          exact nI_1 _
  refine V_go C tk_M_litMany [4] 47 ?_
  exact loop (kL K) 0 _ _ (by omega) rfl rfl
def cntV (K : KF) (A : AS) (F m p c : Nat) (what : Int32) : Int32 := if what = 0 then nI (kL K) else if what = 1 then nI (kR K) else if what = 2 then nI (kD K) else if what = 3 then nI (cnt (litA A) (kL K)) else if what = 4 then nI F else if what = 5 then nI (kN K) else if what = 6 then nI (cnt (fun s => decide (aQ A s = 0)) (kN K)) else if what = 7 then nI (cnt (fun s => decide (aQ A s = 2)) (kN K)) else if what = 8 then aB A else if what = 9 then nI m else if what = 10 then nI p else if what = 11 then nI c else -102
theorem ct_M_countOf {K : KF} {A : AS} {q3 q4 : Nat → Int32} {F : Nat} {H : HD} {p : Nat} {pg : Nat → Int32} {c : Nat} {h : Hp} (hr : RN K A q3 q4 F h) (hh : RH 84 23 H h) (hp : RP p pg h) (hc : h.1 73 12 = nI c) (what : Int32) : Ct 1 md_M_countOf [.ref 73, .int what] h (ex (.int (cntV K A F (dM H) p c what)) h) := by
  refine Ct_of 7 rfl rfl rfl (fun X C => ?_)
  obtain ⟨⟨s1, -⟩, ⟨s2, -⟩, ⟨s3, -⟩, -, ⟨s5, -⟩, -⟩ := id hr.1
  refine V_go C tk_M_countOf [] 62 ?_
  refine And.intro (fun c1 => ?_) (And.intro (fun c1 => ?_) (And.intro (fun c1 => ?_) (And.intro (fun c1 => ?_) (And.intro (fun c1 => ?_) (And.intro (fun c1 => ?_) (And.intro (fun c1 => ?_) (And.intro (fun c1 => ?_) (And.intro (fun c1 => ?_) (And.intro (fun c1 => ?_) (And.intro (fun c1 => ?_) (And.intro (fun c1 => ?_) (And.intro (fun c1 => ?_) trivial))))))))))))
  · refine ⟨?_, rfl⟩
    unfold cntV
    rw [if_neg (sw_out c1 (by decide) (by decide)), if_neg (sw_out c1 (by decide) (by decide)), if_neg (sw_out c1 (by decide) (by decide)), if_neg (sw_out c1 (by decide) (by decide)), if_neg (sw_out c1 (by decide) (by decide)), if_neg (sw_out c1 (by decide) (by decide)), if_neg (sw_out c1 (by decide) (by decide)), if_neg (sw_out c1 (by decide) (by decide)), if_neg (sw_out c1 (by decide) (by decide)), if_neg (sw_out c1 (by decide) (by decide)), if_neg (sw_out c1 (by decide) (by decide)), if_neg (sw_out c1 (by decide) (by decide))]
  · exact ⟨by rw [c1, s1]; rfl, rfl⟩
  · exact ⟨by rw [c1, s2]; rfl, rfl⟩
  · exact ⟨by rw [c1, s3]; rfl, rfl⟩
  · refine ⟨_, ⟨_, by decide, (ct_M_litMany hr)⟩, fun r80 h80 p80 => ?_⟩
    obtain ⟨rfl, rfl⟩ := p80
    exact ⟨by rw [c1]; rfl, rfl⟩
  · exact ⟨by rw [c1, hr.2.2.2.1]; rfl, rfl⟩
  · exact ⟨by rw [c1, s5]; rfl, rfl⟩
  · refine ⟨_, ⟨_, by decide, (ct_M_shipsThat hr (w := 0) (by decide))⟩, fun r96 h96 p96 => ?_⟩
    obtain ⟨rfl, rfl⟩ := p96
    exact ⟨by rw [c1]; rfl, rfl⟩
  · refine ⟨_, ⟨_, by decide, (ct_M_shipsThat hr (w := 2) (by decide))⟩, fun r102 h102 p102 => ?_⟩
    obtain ⟨rfl, rfl⟩ := p102
    exact ⟨by rw [c1]; rfl, rfl⟩
  · exact ⟨by rw [c1, hr.2.1.2.2]; rfl, rfl⟩
  · exact ⟨by rw [c1, hh.1.1]; rfl, rfl⟩
  · exact ⟨by rw [c1, hp.1.1]; rfl, rfl⟩
  · exact ⟨by rw [c1, hc]; rfl, rfl⟩
theorem ct_M_count {K : KF} {A : AS} {q3 q4 : Nat → Int32} {F : Nat} {H : HD} {p : Nat} {pg : Nat → Int32} {c : Nat} {h : Hp} (hr : RN K A q3 q4 F h) (hh : RH 84 23 H h) (hp : RP p pg h) (hc : h.1 73 12 = nI c) (what : Int32) : Ct 2 md_M_count [.ref 73, .int what] h (ex (.int (cntV K A F (dM H) p c what)) h) := by
  refine Ct_of 7 rfl rfl rfl (fun X C => ?_)
  refine V_go C tk_M_count [] 24 ?_
  refine ⟨_, ⟨_, by decide, (ct_M_countOf hr hh hp hc what)⟩, fun r2 h2 p2 => ?_⟩
  obtain ⟨rfl, rfl⟩ := p2
  exact ⟨rfl, rfl⟩
/-- rows of lights and of ships, in any two arrays -/
def RW (ra rb : Nat) (K : KF) (A : AS) (q3 q4 : Nat → Int32) (h : Hp) : Prop := (∀ k, k < kL K → (h.1 ra (5 * k + 0) = nI (kK K k) ∧ kK K k < 5) ∧ (h.1 ra (5 * k + 1) = nI (kP K k) ∧ kP K k < 10) ∧ (h.1 ra (5 * k + 2) = nI (aD A k) ∧ aD A k ≤ 9) ∧ h.1 ra (5 * k + 3) = q3 k ∧ h.1 ra (5 * k + 4) = q4 k) ∧ ∀ s, s < kN K → (h.1 rb (3 * s + 0) = nI (aP A s) ∧ aP A s < 10) ∧ (h.1 rb (3 * s + 1) = Int32.ofInt (kC K s) ∧ -1 ≤ kC K s ∧ kC K s ≤ 1) ∧ h.1 rb (3 * s + 2) = nI (aQ A s) ∧ aQ A s ≤ 2
theorem RN.rw {K : KF} {A : AS} {q3 q4 : Nat → Int32} {F : Nat} {h : Hp} (a : RN K A q3 q4 F h) : RW 76 77 K A q3 q4 h := by
  obtain ⟨⟨s1, s2, s3, s4, s5, s6⟩, ⟨d1, d2, d3⟩, a3, a4, a5⟩ := a
  exact ⟨fun k hk => ⟨⟨(s4 k hk).1, (s4 k hk).2.1⟩, (s4 k hk).2.2, d1 k hk, a3 k hk⟩, fun s hs => ⟨⟨(d2 s hs).1, (d2 s hs).2.1⟩, s6 s hs, (d2 s hs).2.2⟩⟩
theorem RN.ofRW {K : KF} {A : AS} {q3 q4 : Nat → Int32} {F : Nat} {h : Hp} (a : RW 76 77 K A q3 q4 h) (h1 : h.1 73 7 = nI (kL K) ∧ kL K ≤ 5) (h2 : h.1 73 8 = nI (kR K) ∧ kR K ≤ 9) (h3 : h.1 73 9 = nI (kD K) ∧ kD K ≤ 9) (h4 : h.1 73 14 = nI (kN K) ∧ kN K ≤ 3) (h5 : h.1 73 11 = aB A) (h6 : h.1 73 10 = nI F) (h7 : F < 16) : RN K A q3 q4 F h := by
  obtain ⟨a1, a2⟩ := a
  exact ⟨⟨h1, h2, h3, fun k hk => ⟨(a1 k hk).1.1, (a1 k hk).1.2, (a1 k hk).2.1⟩, h4, fun s hs => (a2 s hs).2.1⟩, ⟨fun k hk => (a1 k hk).2.2.1, fun s hs => ⟨(a2 s hs).1.1, (a2 s hs).1.2, (a2 s hs).2.2⟩, h5⟩, fun k hk => (a1 k hk).2.2.2, h6, h7⟩
theorem RW.to {ra rb rc rd : Nat} {K : KF} {A : AS} {q3 q4 : Nat → Int32} {h h' : Hp} (a : RW ra rb K A q3 q4 h) (hL : kL K ≤ 5) (hN : kN K ≤ 3) (e1 : ∀ j, j < 25 → h'.1 rc j = h.1 ra j) (e2 : ∀ j, j < 9 → h'.1 rd j = h.1 rb j) : RW rc rd K A q3 q4 h' := by
  obtain ⟨a1, a2⟩ := a
  refine ⟨fun k hk => ?_, fun s hs => ?_⟩
  · rw [e1 _ (by omega), e1 _ (by omega), e1 _ (by omega), e1 _ (by omega), e1 _ (by omega)]
    exact a1 k hk
  · rw [e2 _ (by omega), e2 _ (by omega), e2 _ (by omega)]
    exact a2 s hs
theorem RH.to {ar fl ar' fl' : Nat} {H : HD} {h h' : Hp} (a : RH ar fl H h) (e0 : h'.1 73 fl' = h.1 73 fl) (e1 : ∀ j, j < 40 → h'.1 ar' j = h.1 ar j) : RH ar' fl' H h' := by
  obtain ⟨⟨a1, a2⟩, a3⟩ := a
  refine ⟨⟨by rw [e0]; exact a1, a2⟩, fun i hi => ?_⟩
  rw [e1 _ (by omega), e1 _ (by omega), e1 _ (by omega), e1 _ (by omega), e1 _ (by omega)]
  exact a3 i hi
/-- what an image keeps -/
def RK (K : KF) (A : AS) (q3 q4 : Nat → Int32) (F : Nat) (H : HD) (h : Hp) : Prop := RW 85 86 K A q3 q4 h ∧ (h.1 73 27 = nI F ∧ F < 16) ∧ h.1 73 28 = aB A ∧ (h.1 73 29 = nI (kN K) ∧ kN K ≤ 3) ∧ RH 87 30 H h
def PKp (a b : Nat) : Prop := a = 85 ∨ a = 86 ∨ a = 87 ∨ (a = 73 ∧ 26 ≤ b ∧ b ≤ 30)
theorem cp3 (h : Hp) (a b n c d m e f o : Nat) {x y : Nat} (h1 : x ≠ b ∨ n ≤ y) (h2 : x ≠ d ∨ m ≤ y) (h3 : x ≠ f ∨ o ≤ y) : (cpH (cpH (cpH h a b n) c d m) e f o).1 x y = h.1 x y := by
  rw [cpH_out _ _ _ _ h3, cpH_out _ _ _ _ h2, cpH_out _ _ _ _ h1]
theorem ct_M_image {K : KF} {A : AS} {q3 q4 : Nat → Int32} {F : Nat} {H : HD} {h : Hp} (hr : RN K A q3 q4 F h) (hh : RH 84 23 H h) : Ct 1 md_M_image [.ref 73] h (fun r h' => r = some (.int (if kL K = 0 then -103 else aB A)) ∧ (kL K ≠ 0 → RK K A q3 q4 F H h' ∧ h'.1 73 26 = h.1 73 12) ∧ (kL K = 0 → h' = h) ∧ Fr PKp h h') := by
  refine Ct_of 7 rfl rfl rfl (fun X C => ?_)
  by_cases hl0 : kL K = 0
  · skip
    refine V_go C tk_M_image [] 63 ?_
    refine ⟨_, ⟨_, by decide, (ct_M_lacksR hr.1)⟩, fun r1 h1 p1 => ?_⟩
    obtain ⟨rfl, rfl⟩ := p1
    refine And.intro (fun c4 => ?_) (fun c4 => ?_)
    · rw [decide_eq_true hl0] at c4; exact absurd c4 (by decide)
    · exact ⟨by rw [if_pos hl0], fun h9 => absurd hl0 h9, fun _ => rfl, Fr.rf⟩
  · have hL5 := hr.1.1.2
    have hN3 := hr.1.2.2.2.2.1.2
    refine V_go C tk_M_image [] 63 ?_
    refine ⟨_, ⟨_, by decide, (ct_M_lacksR hr.1)⟩, fun r1 h1 p1 => ?_⟩
    obtain ⟨rfl, rfl⟩ := p1
    refine And.intro (fun c4 => ?_) (fun c4 => ?_)
    · refine ⟨_, ⟨_, by decide, (ct_M_copy (a := 76) (b := 85) (n := 25) (by decide) _)⟩, fun r18 h18 p18 => ?_⟩
      obtain ⟨rfl, rfl⟩ := p18
      refine ⟨_, ⟨_, by decide, (ct_M_copy (a := 77) (b := 86) (n := 9) (by decide) _)⟩, fun r29 h29 p29 => ?_⟩
      obtain ⟨rfl, rfl⟩ := p29
      refine ⟨_, ⟨_, by decide, (ct_M_copy (a := 84) (b := 87) (n := 40) (by decide) _)⟩, fun r40 h40 p40 => ?_⟩
      obtain ⟨rfl, rfl⟩ := p40
      have g3 : ∀ {x y : Nat}, (x ≠ 85 ∧ x ≠ 86 ∧ x ≠ 87) → (cpH (cpH (cpH h 76 85 25) 77 86 9) 84 87 40).1 x y = h.1 x y := fun hx => cp3 h _ _ _ _ _ _ _ _ _ (by omega) (by omega) (by omega)
      have c85 : ∀ {y : Nat}, y < 25 → (cpH (cpH (cpH h 76 85 25) 77 86 9) 84 87 40).1 85 y = h.1 76 y := fun hy => by rw [cpH_out _ _ _ _ (by omega), cpH_out _ _ _ _ (by omega), cpH_in _ _ _ _ hy]
      have c86 : ∀ {y : Nat}, y < 9 → (cpH (cpH (cpH h 76 85 25) 77 86 9) 84 87 40).1 86 y = h.1 77 y := fun hy => by rw [cpH_out _ _ _ _ (by omega), cpH_in _ _ _ _ hy, cpH_out _ _ _ _ (by omega)]
      have c87 : ∀ {y : Nat}, y < 40 → (cpH (cpH (cpH h 76 85 25) 77 86 9) 84 87 40).1 87 y = h.1 84 y := fun hy => by rw [cpH_in _ _ _ _ hy, cpH_out _ _ _ _ (by omega), cpH_out _ _ _ _ (by omega)]
      refine ⟨?_, fun _ => ⟨⟨hr.rw.to hL5 hN3 (fun j hj => ?_) (fun j hj => ?_), ⟨?_, hr.2.2.2.2⟩, ?_, ⟨?_, hN3⟩, hh.to ?_ (fun j hj => ?_)⟩, ?_⟩, fun h9 => absurd h9 hl0, ?_⟩
      · rw [if_neg hl0]
        simp [up2, g3]
        exact hr.2.1.2.2
      · simp [up2]; exact c85 hj
      · simp [up2]; exact c86 hj
      · simp [up2, g3]; exact hr.2.2.2.1
      · simp [up2, g3]; exact hr.2.1.2.2
      · simp [up2, g3]; exact hr.1.2.2.2.2.1.1
      · simp [up2, g3]
      · simp [up2]; exact c87 hj
      · simp [up2, g3]
      · exact (((((((Fr.rf.cp (fun y _ => by unfold PKp; omega)).cp (fun y _ => by unfold PKp; omega)).cp (fun y _ => by unfold PKp; omega)).up (by unfold PKp; omega)).up (by unfold PKp; omega)).up (by unfold PKp; omega)).up (by unfold PKp; omega)).up (by unfold PKp; omega)
    · rw [decide_eq_false hl0] at c4; exact absurd rfl c4
def PRs (a b : Nat) : Prop := a = 76 ∨ a = 77 ∨ a = 84 ∨ (a = 73 ∧ (b = 10 ∨ b = 11 ∨ b = 14 ∨ b = 23))
theorem ct_M_restoreN {h : Hp} (hn : ¬ h.1 73 26 = h.1 73 12) : Ct 1 md_M_restore [.ref 73] h (ex (.int (-103)) h) := by
  refine Ct_of 7 rfl rfl rfl (fun X C => ?_)
  refine V_go C tk_M_restore [] 61 ?_
  refine And.intro (fun c8 => ?_) (fun c8 => ?_)
  · exact absurd c8 hn
  · exact ⟨rfl, rfl⟩
theorem ct_M_restore {K : KF} {A : AS} {q3 q4 : Nat → Int32} {F : Nat} {H : HD} {h : Hp} (hn : h.1 73 26 = h.1 73 12) (hk : RK K A q3 q4 F H h) (h1 : h.1 73 7 = nI (kL K) ∧ kL K ≤ 5) (h2 : h.1 73 8 = nI (kR K) ∧ kR K ≤ 9) (h3 : h.1 73 9 = nI (kD K) ∧ kD K ≤ 9) : Ct 1 md_M_restore [.ref 73] h (fun r h' => r = some (.int (aB A)) ∧ RN K A q3 q4 F h' ∧ RH 84 23 H h' ∧ Fr PRs h h') := by
  refine Ct_of 7 rfl rfl rfl (fun X C => ?_)
  obtain ⟨k1, k2, k3, k4, k5⟩ := id hk
  refine V_go C tk_M_restore [] 61 ?_
  refine And.intro (fun c8 => ?_) (fun c8 => ?_)
  · refine ⟨_, ⟨_, by decide, (ct_M_copy (a := 85) (b := 76) (n := 25) (by decide) _)⟩, fun r22 h22 p22 => ?_⟩
    obtain ⟨rfl, rfl⟩ := p22
    refine ⟨_, ⟨_, by decide, (ct_M_copy (a := 86) (b := 77) (n := 9) (by decide) _)⟩, fun r33 h33 p33 => ?_⟩
    obtain ⟨rfl, rfl⟩ := p33
    refine ⟨_, ⟨_, by decide, (ct_M_copy (a := 87) (b := 84) (n := 40) (by decide) _)⟩, fun r44 h44 p44 => ?_⟩
    obtain ⟨rfl, rfl⟩ := p44
    have g3 : ∀ {x y : Nat}, (x ≠ 76 ∧ x ≠ 77 ∧ x ≠ 84) → (cpH (cpH (cpH h 85 76 25) 86 77 9) 87 84 40).1 x y = h.1 x y := fun hx => cp3 h _ _ _ _ _ _ _ _ _ (by omega) (by omega) (by omega)
    have c85 : ∀ {y : Nat}, y < 25 → (cpH (cpH (cpH h 85 76 25) 86 77 9) 87 84 40).1 76 y = h.1 85 y := fun hy => by rw [cpH_out _ _ _ _ (by omega), cpH_out _ _ _ _ (by omega), cpH_in _ _ _ _ hy]
    have c86 : ∀ {y : Nat}, y < 9 → (cpH (cpH (cpH h 85 76 25) 86 77 9) 87 84 40).1 77 y = h.1 86 y := fun hy => by rw [cpH_out _ _ _ _ (by omega), cpH_in _ _ _ _ hy, cpH_out _ _ _ _ (by omega)]
    have c87 : ∀ {y : Nat}, y < 40 → (cpH (cpH (cpH h 85 76 25) 86 77 9) 87 84 40).1 84 y = h.1 87 y := fun hy => by rw [cpH_in _ _ _ _ hy, cpH_out _ _ _ _ (by omega), cpH_out _ _ _ _ (by omega)]
    refine ⟨?_, RN.ofRW (k1.to h1.2 k4.2 (fun j hj => ?_) (fun j hj => ?_)) ⟨?_, h1.2⟩ ⟨?_, h2.2⟩ ⟨?_, h3.2⟩ ⟨?_, k4.2⟩ ?_ ?_ k2.2, k5.to ?_ (fun j hj => ?_), ?_⟩
    · simp [up2, g3]; exact k3
    · simp [up2]; exact c85 hj
    · simp [up2]; exact c86 hj
    · simp [up2, g3]; exact h1.1
    · simp [up2, g3]; exact h2.1
    · simp [up2, g3]; exact h3.1
    · simp [up2, g3]; exact k4.1
    · simp [up2, g3]; exact k3
    · simp [up2, g3]; exact k2.1
    · simp [up2, g3]
    · simp [up2]; exact c87 hj
    · exact ((((((Fr.rf.cp (fun y _ => by unfold PRs; omega)).cp (fun y _ => by unfold PRs; omega)).cp (fun y _ => by unfold PRs; omega)).up (by unfold PRs; omega)).up (by unfold PRs; omega)).up (by unfold PRs; omega)).up (by unfold PRs; omega)
  · exact absurd hn c8
