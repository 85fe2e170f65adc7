/-! ===== the class: nights ===== -/
/-! the night of cell 4 -/
def CN4 (K : KF) (A : AS) (q3 q4 : Nat → Int32) (F : Nat) (h : Hp) : Prop := (h.1 4 7 = nI (kN K) ∧ kN K ≤ 3) ∧ (∀ s, s < kN K → (h.1 51 s = nI (aP A s) ∧ aP A s < 10) ∧ (h.1 52 s = Int32.ofInt (kC K s) ∧ -1 ≤ kC K s ∧ kC K s ≤ 1) ∧ h.1 53 s = nI (aQ A s) ∧ aQ A s ≤ 2) ∧ (∀ k, k < kL K → (h.1 54 k = nI (aD A k) ∧ aD A k ≤ 9) ∧ h.1 55 k = q3 k ∧ h.1 56 k = q4 k) ∧ (h.1 4 8 = nI F ∧ F < 16) ∧ h.1 4 9 = aB A
def PN4 (a _b : Nat) : Prop := a = 4 ∨ (51 ≤ a ∧ a ≤ 56)
/-! the night of cell 3 -/
def CN3 (K : KF) (A : AS) (q3 q4 : Nat → Int32) (F : Nat) (h : Hp) : Prop := (h.1 3 7 = nI (kN K) ∧ kN K ≤ 3) ∧ (∀ s, s < kN K → (h.1 45 s = nI (aP A s) ∧ aP A s < 10) ∧ (h.1 46 s = Int32.ofInt (kC K s) ∧ -1 ≤ kC K s ∧ kC K s ≤ 1) ∧ h.1 47 s = nI (aQ A s) ∧ aQ A s ≤ 2) ∧ (∀ k, k < kL K → (h.1 48 k = nI (aD A k) ∧ aD A k ≤ 9) ∧ h.1 49 k = q3 k ∧ h.1 50 k = q4 k) ∧ (h.1 3 8 = nI F ∧ F < 16) ∧ h.1 3 9 = aB A
def PN3 (a _b : Nat) : Prop := a = 3 ∨ (45 ≤ a ∧ a ≤ 50)
theorem ct_Night_litNow_3 {K : KF} {A : AS} {q3 q4 : Nat → Int32} {F : Nat} {h : Hp} (hs : CSt K h) (hn : CN3 K A q3 q4 F h) : Ct 1 md_Night_litNow [.ref 3] h (ex (.int (nI (lnB K A))) h) := by
  refine Ct_of 2 rfl rfl rfl (fun X C => ?_)
  obtain ⟨⟨s1, s2⟩, -⟩ := hs.1
  have hp : 0 < 2 ^ kL K := Nat.two_pow_pos _
  have e1 : (1 : Int32) <<< (nI (kL K) &&& 31) - 1 = nI (2 ^ kL K - 1) := by
    rw [shl1 (by omega)]
    exact pk_sub (b := 1) hp
  refine V_go C tk_Night_litNow [] 33 ?_
  refine ⟨_, ⟨_, by decide, (ct_Row_bitsBelow (r := 16) (a := 48) (by decide) 1 h)⟩, fun r5 h5 p5 => ?_⟩
  obtain ⟨rfl, rfl⟩ := p5
  exact ⟨by rw [s1, e1, fa_and, lit_and s2 (fun k hk => (hn.2.2.1 k hk).1)], rfl⟩
theorem ct_Night_isLostBy_3 {K : KF} {A : AS} {q3 q4 : Nat → Int32} {F : Nat} {h : Hp} (hs : CSt K h) (hn : CN3 K A q3 q4 F h) {set s : Nat} (hset : set < 32) (hsn : s < kN K) (hq0 : aQ A s = 0) : Ct 1 md_Night_isLostBy [.ref 3, .int (nI set), .int (nI s)] h (ex (.int (tI (lp K s (kD K) (goDark K A set)))) h) := by
  refine Ct_of 2 rfl rfl rfl (fun X C => ?_)
  obtain ⟨⟨s1, s2⟩, -, ⟨s3, s4⟩, -⟩ := hs.1
  obtain ⟨⟨n1, n2⟩, n3, n4, -, -⟩ := id hn
  obtain ⟨⟨m1, m2⟩, ⟨m3, m4⟩, -, -⟩ := n3 s hsn
  have loop : ∀ (n g : Nat) (B : AS) (x b : Int32) (r5 : Option Value), g + n = kD K + 1 → 1 ≤ g → b = nI g → x = nI (aP B s) → aP B s < 10 → aQ B s = 0 → (∀ k, k < kL K → aD B k = (if set.testBit k then kD K else aD A k) - (g - 1)) → lp K s n B = lp K s (kD K) (goDark K A set) → V X 12 [some (.ref 3), some (.int (nI set)), some (.int (nI s)), some (.int x), some (.int b), r5] [] h := by
    intro n
    induction n with
    | zero =>
      intro g B x b r5 hg hg1 hb hx hp hq hd he
      subst hb
      refine V_go C tk_Night_isLostBy [12] 67 ?_
      refine And.intro (fun c21 => ?_) (fun c21 => ?_)
      · exact ⟨by decide, by rw [← he]; rfl, rfl⟩
      · exact absurd (by rw [s3]; exact nI_lt (by omega) (by omega)) c21
    | succ n ih =>
      intro g B x b r5 hg hg1 hb hx hp hq hd he
      subst hb
      subst hx
      have et := toP_i (K := K) (A := B) hp m4
      have he' : (if newQ K B s = 1 then false else if newQ K B s = 2 then true else lp K s n (stepA K B)) = lp K s (kD K) (goDark K A set) := he
      by_cases hin : toP K B s < 0 ∨ 9 < toP K B s
      · have hnq : newQ K B s = 1 := by unfold newQ; rw [if_pos hq, if_pos hin]
        have hir : inR (Int32.ofInt (toP K B s)) 10 = false := by
          unfold inR
          rw [toInt_ofInt (by unfold toP; omega) (by unfold toP; omega)]
          rcases hin with h9 | h9
          · rw [decide_eq_false (by omega)]; rfl
          · rw [decide_eq_false (show ¬ toP K B s < ((10 : Nat) : Int) by omega), Bool.and_false]
        rw [if_pos hnq] at he'
        refine V_go C tk_Night_isLostBy [12] 67 ?_
        refine And.intro (fun c21 => ?_) (fun c21 => ?_)
        · rw [s3] at c21; exact absurd c21 (nI_nlt (by omega) (by omega))
        · refine ⟨_, ⟨_, by decide, (ct_Row_at (r := 14) (a := 46) (n := 3) (by decide) rfl (by omega) h)⟩, fun r30 h30 p30 => ?_⟩
          rw [m3] at p30
          obtain ⟨rfl, rfl⟩ := p30
          refine ⟨_, ⟨_, by decide, (ct_GD_isPlace _ h)⟩, fun r36 h36 p36 => ?_⟩
          rw [et, hir] at p36
          obtain ⟨rfl, rfl⟩ := p36
          refine And.intro (fun c39 => ?_) (fun c39 => ?_)
          · exact absurd rfl c39
          · exact ⟨by decide, by rw [← he']; rfl, rfl⟩
      · obtain ⟨y, hy10, hy⟩ : ∃ y : Nat, y < 10 ∧ toP K B s = (y : Int) := ⟨(toP K B s).toNat, by omega, by omega⟩
        have hyt : (toP K B s).toNat = y := by omega
        have ey : nI (aP B s) + Int32.ofInt (kC K s) = nI y := by rw [et, hy]; exact ofInt_nat y
        have hnq : newQ K B s = if shine K B y = 0 then 2 else 0 := by unfold newQ; rw [if_pos hq, if_neg hin, hyt]
        have hlt5 : msk (fun k => decide (h.1 48 k < nI g)) 5 < 32 := msk_lt _ 5
        have el : nI (msk (fun k => decide (h.1 48 k < nI g)) 5) &&& (nI set ^^^ -1) = nI (msk (fun k => decide (h.1 48 k < nI g)) 5 &&& (65535 ^^^ set)) := and_not (by omega) (by omega)
        have hbt : ∀ k, k < kL K → (msk (fun k => decide (h.1 48 k < nI g)) 5 &&& (65535 ^^^ set)).testBit k = litA B k := by
          intro k hk
          obtain ⟨⟨d1, d2⟩, -⟩ := n4 k hk
          rw [Nat.testBit_and, msk_bit, decide_eq_true (show k < 5 by omega), Bool.true_and, Nat.testBit_xor, show (65535 : Nat) = 2 ^ 16 - 1 from rfl, Nat.testBit_two_pow_sub_one, decide_eq_true (show k < 16 by omega)]
          show (decide (h.1 48 k < nI g) && _) = _
          rw [d1]
          unfold litA
          rw [hd k hk]
          have hlt := nI_lt' (a := aD A k) (b := g) (by omega) (by omega)
          cases hb : set.testBit k with
          | true =>
            simp only [if_true, Bool.xor_true, Bool.not_true, Bool.and_false]
            rw [eq_comm, decide_eq_false_iff_not]
            omega
          | false =>
            simp only [Bool.false_eq_true, if_false, Bool.xor_false, Bool.and_true]
            apply decide_eq_decide.mpr
            rw [hlt]
            omega
        have hir : inR (nI y) 10 = true := inR_nI hy10 (by decide)
        have hle : shN' K y &&& (msk (fun k => decide (h.1 48 k < nI g)) 5 &&& (65535 ^^^ set)) ≤ shN' K y := Nat.and_le_left
        have hsl := shN_lt K y s2
        refine V_go C tk_Night_isLostBy [12] 67 ?_
        refine And.intro (fun c21 => ?_) (fun c21 => ?_)
        · rw [s3] at c21; exact absurd c21 (nI_nlt (by omega) (by omega))
        · refine ⟨_, ⟨_, by decide, (ct_Row_at (r := 14) (a := 46) (n := 3) (by decide) rfl (by omega) h)⟩, fun r30 h30 p30 => ?_⟩
          rw [m3] at p30
          obtain ⟨rfl, rfl⟩ := p30
          refine ⟨_, ⟨_, by decide, (ct_GD_isPlace _ h)⟩, fun r36 h36 p36 => ?_⟩
          rw [ey, hir] at p36
          obtain ⟨rfl, rfl⟩ := p36
          refine And.intro (fun c39 => ?_) (fun c39 => ?_)
          · refine ⟨_, ⟨_, by decide, (ct_Row_bitsBelow (r := 16) (a := 48) (by decide) (nI g) h)⟩, fun r50 h50 p50 => ?_⟩
            obtain ⟨rfl, rfl⟩ := p50
            refine ⟨_, ⟨_, by decide, (ct_Row_at (r := 12) (a := 44) (n := 10) (by decide) ey hy10 h)⟩, fun r67 h67 p67 => ?_⟩
            rw [hs.2 y hy10] at p67
            obtain ⟨rfl, rfl⟩ := p67
            refine And.intro (fun c73 => ?_) (fun c73 => ?_)
            · rw [el, fa_and, nI_eq0 (by omega), sh_0 K B y _ hbt] at c73
              rw [if_neg c73] at hnq
              rw [hnq] at he'
              refine ih (g + 1) (stepA K B) _ _ _ (by omega) (by omega) (nI_1 g) (by rw [ey]; show nI y = nI (newP K B s); unfold newP; rw [if_pos ⟨hq, hnq⟩, hyt]) (newP_lt K B hp) hnq (fun k hk => ?_) he'
              show aD B k - 1 = _
              rw [hd k hk]
              omega
            · rw [el, fa_and, nI_eq0 (by omega), sh_0 K B y _ hbt] at c73
              rw [if_pos c73] at hnq
              rw [hnq] at he'
              exact ⟨by decide, by rw [← he']; rfl, rfl⟩
          · exact absurd c39 (by decide)
  refine V_go C tk_Night_isLostBy [12] 67 ?_
  refine ⟨_, ⟨_, by decide, (ct_Row_at (r := 13) (a := 45) (n := 3) (by decide) rfl (by omega) h)⟩, fun r5 h5 p5 => ?_⟩
  rw [m1] at p5
  obtain ⟨rfl, rfl⟩ := p5
  exact loop (kD K) 1 (goDark K A set) _ _ _ (by omega) (by omega) rfl rfl m2 hq0 (fun k hk => rfl) rfl
theorem ct_Night_lostBy_3 {K : KF} {A : AS} {q3 q4 : Nat → Int32} {F : Nat} {h : Hp} (hs : CSt K h) (hn : CN3 K A q3 q4 F h) {set : Nat} {z : Int32} (hz : z = nI set) (hset : set < 32) : Ct 2 md_Night_lostBy [.ref 3, .int z] h (ex (.int (nI (lostBy K A set))) h) := by
  subst hz
  refine Ct_of 2 rfl rfl rfl (fun X C => ?_)
  obtain ⟨⟨n1, n2⟩, n3, -, -, -⟩ := id hn
  have key : lostBy K A set = cnt (fun s => decide (aQ A s = 0) && lp K s (kD K) (goDark K A set)) (kN K) := lostIn_lp K (kD K) (goDark K A set)
  have loop : ∀ (n i : Nat) (m b : Int32), i + n = kN K → m = nI (cnt (fun s => decide (aQ A s = 0) && lp K s (kD K) (goDark K A set)) i) → b = nI i → V X 4 [some (.ref 3), some (.int (nI set)), some (.int m), some (.int b)] [] h := by
    intro n
    induction n with
    | zero =>
      intro i m b hi hm hb
      subst hb
      obtain rfl : i = kN K := by omega
      refine V_go C tk_Night_lostBy [4] 43 ?_
      refine And.intro (fun c9 => ?_) (fun c9 => ?_)
      · exact ⟨by rw [hm, key], rfl⟩
      · exact absurd (nle n1) c9
    | succ n ih =>
      intro i m b hi hm hb
      subst hb
      obtain ⟨-, -, m5, m6⟩ := n3 i (by omega)
      have ec : cnt (fun s => decide (aQ A s = 0) && lp K s (kD K) (goDark K A set)) (i + 1) = cnt (fun s => decide (aQ A s = 0) && lp K s (kD K) (goDark K A set)) i + (bif decide (aQ A i = 0) && lp K i (kD K) (goDark K A set) then 1 else 0) := rfl
      by_cases hq : aQ A i = 0
      · rw [decide_eq_true hq, Bool.true_and] at ec
        refine V_go C tk_Night_lostBy [4] 43 ?_
        refine And.intro (fun c9 => ?_) (fun c9 => ?_)
        · exact absurd c9 (nge (by omega) (by omega) n1)
        · refine ⟨_, ⟨_, by decide, (ct_Row_at (r := 15) (a := 47) (n := 3) (by decide) rfl (by omega) h)⟩, fun r17 h17 p17 => ?_⟩
          rw [m5, hq] at p17
          obtain ⟨rfl, rfl⟩ := p17
          refine And.intro (fun c20 => ?_) (fun c20 => ?_)
          · exact absurd rfl c20
          · refine ⟨_, ⟨_, by decide, (ct_Night_isLostBy_3 hs hn hset (by omega) hq)⟩, fun r26 h26 p26 => ?_⟩
            obtain ⟨rfl, rfl⟩ := p26
            refine And.intro (fun c29 => ?_) (fun c29 => ?_)
            · rw [tI_0] at c29
              exact ih (i + 1) _ _ (by omega) (by rw [hm, ec, c29]; rfl) (nI_1 i)
            · rw [tI_n] at c29
              exact ih (i + 1) _ _ (by omega) (by rw [hm, ec, c29]; exact nI_1 _) (nI_1 i)
      · rw [decide_eq_false hq, Bool.false_and] at ec
        refine V_go C tk_Night_lostBy [4] 43 ?_
        refine And.intro (fun c9 => ?_) (fun c9 => ?_)
        · exact absurd c9 (nge (by omega) (by omega) n1)
        · refine ⟨_, ⟨_, by decide, (ct_Row_at (r := 15) (a := 47) (n := 3) (by decide) rfl (by omega) h)⟩, fun r17 h17 p17 => ?_⟩
          rw [m5] at p17
          obtain ⟨rfl, rfl⟩ := p17
          refine And.intro (fun c20 => ?_) (fun c20 => ?_)
          · exact ih (i + 1) _ _ (by omega) (by rw [hm, ec]; rfl) (nI_1 i)
          · exact absurd ((nI_eq0 (by omega)).mp c20) hq
  refine V_go C tk_Night_lostBy [4] 43 ?_
  exact loop (kN K) 0 _ _ (by omega) rfl rfl
theorem ct_Night_mayGoDark_3 {K : KF} {A : AS} {q3 q4 : Nat → Int32} {F : Nat} {h : Hp} (hs : CSt K h) (hn : CN3 K A q3 q4 F h) {k : Nat} (hk : k < kL K) : Ct 3 md_Night_mayGoDark [.ref 3, .int (nI k)] h (ex (.int (tI (mayGo K A k))) h) := by
  refine Ct_of 2 rfl rfl rfl (fun X C => ?_)
  have hL5 := hs.1.1.2
  have l0 := lostBy_le K A 0 hs.1.2.2.1.2 hn.1.2
  have l1 := lostBy_le K A (2 ^ k) hs.1.2.2.1.2 hn.1.2
  obtain ⟨⟨d1, d2⟩, -⟩ := hn.2.2.1 k hk
  have hk2 : (2 : Nat) ^ k < 32 := pow5 (by omega)
  unfold mayGo litA at C
  by_cases hd : aD A k = 0
  · rw [decide_eq_true hd, Bool.true_and] at C
    refine V_go C tk_Night_mayGoDark [] 38 ?_
    refine ⟨_, ⟨_, by decide, (ct_Row_at (r := 16) (a := 48) (n := 5) (by decide) rfl (by omega) h)⟩, fun r5 h5 p5 => ?_⟩
    rw [d1, hd] at p5
    obtain ⟨rfl, rfl⟩ := p5
    refine And.intro (fun c8 => ?_) (fun c8 => ?_)
    · exact absurd rfl c8
    · refine ⟨_, ⟨_, by decide, (ct_Night_lostBy_3 hs hn (set := 2 ^ k) (shl1 (by omega)) hk2)⟩, fun r15 h15 p15 => ?_⟩
      obtain ⟨rfl, rfl⟩ := p15
      refine ⟨_, ⟨_, by decide, (ct_Night_lostBy_3 hs hn (set := 0) rfl (by decide))⟩, fun r20 h20 p20 => ?_⟩
      obtain ⟨rfl, rfl⟩ := p20
      refine And.intro (fun c23 => ?_) (fun c23 => ?_)
      · rw [nI_lt' (by omega) (by omega)] at c23
        exact ⟨by decide, by rw [decide_eq_false (by omega)]; rfl, rfl⟩
      · rw [nI_lt' (by omega) (by omega)] at c23
        exact ⟨by decide, by rw [decide_eq_true (by omega)]; rfl, rfl⟩
  · rw [decide_eq_false hd, Bool.false_and] at C
    refine V_go C tk_Night_mayGoDark [] 38 ?_
    refine ⟨_, ⟨_, by decide, (ct_Row_at (r := 16) (a := 48) (n := 5) (by decide) rfl (by omega) h)⟩, fun r5 h5 p5 => ?_⟩
    rw [d1] at p5
    obtain ⟨rfl, rfl⟩ := p5
    refine And.intro (fun c8 => ?_) (fun c8 => ?_)
    · exact ⟨by decide, rfl, rfl⟩
    · exact absurd ((nI_eq0 (by omega)).mp c8) hd
theorem ct_Night_sail_3 {K : KF} {A : AS} {h : Hp} (hs : CSt K h) {s : Nat} (hsn : s < 3) (m1 : h.1 45 s = nI (aP A s)) (m2 : aP A s < 10) (m3 : h.1 46 s = Int32.ofInt (kC K s)) (m4 : -1 ≤ kC K s ∧ kC K s ≤ 1) (m5 : h.1 47 s = nI (aQ A s)) (hq : aQ A s = 0) : Ct 1 md_Night_sail [.ref 3, .int (nI s), .int (nI (lnB K A))] h (exV (up2 (up2 h.1 47 s (nI (newQ K A s))) 45 s (nI (newP K A s)), h.2)) := by
  refine Ct_of 2 rfl rfl rfl (fun X C => ?_)
  have s2 := hs.1.1.2
  have et := toP_i (K := K) (A := A) m2 m4
  by_cases hin : toP K A s < 0 ∨ 9 < toP K A s
  · have hnq : newQ K A s = 1 := by unfold newQ; rw [if_pos hq, if_pos hin]
    have hnp : newP K A s = aP A s := by unfold newP; rw [if_neg (fun h9 => by rw [hnq] at h9; exact absurd h9.2 (by decide))]
    have hir : inR (Int32.ofInt (toP K A s)) 10 = false := by
      unfold inR
      rw [toInt_ofInt (by unfold toP; omega) (by unfold toP; omega)]
      rcases hin with h9 | h9
      · rw [decide_eq_false (by omega)]; rfl
      · rw [decide_eq_false (show ¬ toP K A s < ((10 : Nat) : Int) by omega), Bool.and_false]
    refine V_go C tk_Night_sail [] 59 ?_
    refine ⟨_, ⟨_, by decide, (ct_Row_at (r := 13) (a := 45) (n := 3) (by decide) rfl (by omega) h)⟩, fun r5 h5 p5 => ?_⟩
    rw [m1] at p5
    obtain ⟨rfl, rfl⟩ := p5
    refine ⟨_, ⟨_, by decide, (ct_Row_at (r := 14) (a := 46) (n := 3) (by decide) rfl (by omega) h)⟩, fun r13 h13 p13 => ?_⟩
    rw [m3] at p13
    obtain ⟨rfl, rfl⟩ := p13
    refine ⟨_, ⟨_, by decide, (ct_GD_isPlace _ h)⟩, fun r19 h19 p19 => ?_⟩
    rw [et, hir] at p19
    obtain ⟨rfl, rfl⟩ := p19
    refine And.intro (fun c22 => ?_) (fun c22 => ?_)
    · exact absurd rfl c22
    · refine ⟨_, ⟨_, by decide, (ct_Row_put (r := 15) (a := 47) (n := 3) (by decide) rfl (by omega) 1 h)⟩, fun r31 h31 p31 => ?_⟩
      obtain ⟨rfl, rfl⟩ := p31
      refine ⟨rfl, ?_⟩
      rw [hnq, hnp]
      rw [up2_same (S := up2 h.1 47 s (nI 1)) (by rw [up2_a _ _ _ _ (by decide)]; exact m1)]
      rfl
  · obtain ⟨y, hy10, hy⟩ : ∃ y : Nat, y < 10 ∧ toP K A s = (y : Int) := ⟨(toP K A s).toNat, by omega, by omega⟩
    have hyt : (toP K A s).toNat = y := by omega
    have ey : nI (aP A s) + Int32.ofInt (kC K s) = nI y := by rw [et, hy]; exact ofInt_nat y
    have hnq : newQ K A s = if shine K A y = 0 then 2 else 0 := by unfold newQ; rw [if_pos hq, if_neg hin, hyt]
    have hir : inR (nI y) 10 = true := inR_nI hy10 (by decide)
    have hsl := shN_lt K y s2
    have hle : shN' K y &&& lnB K A ≤ shN' K y := Nat.and_le_left
    refine V_go C tk_Night_sail [] 59 ?_
    refine ⟨_, ⟨_, by decide, (ct_Row_at (r := 13) (a := 45) (n := 3) (by decide) rfl (by omega) h)⟩, fun r5 h5 p5 => ?_⟩
    rw [m1] at p5
    obtain ⟨rfl, rfl⟩ := p5
    refine ⟨_, ⟨_, by decide, (ct_Row_at (r := 14) (a := 46) (n := 3) (by decide) rfl (by omega) h)⟩, fun r13 h13 p13 => ?_⟩
    rw [m3] at p13
    obtain ⟨rfl, rfl⟩ := p13
    refine ⟨_, ⟨_, by decide, (ct_GD_isPlace _ h)⟩, fun r19 h19 p19 => ?_⟩
    rw [ey, hir] at p19
    obtain ⟨rfl, rfl⟩ := p19
    refine And.intro (fun c22 => ?_) (fun c22 => ?_)
    · refine ⟨_, ⟨_, by decide, (ct_Row_at (r := 12) (a := 44) (n := 10) (by decide) ey hy10 h)⟩, fun r45 h45 p45 => ?_⟩
      rw [hs.2 y hy10] at p45
      obtain ⟨rfl, rfl⟩ := p45
      refine And.intro (fun c50 => ?_) (fun c50 => ?_)
      · refine ⟨_, ⟨_, by decide, (ct_Row_put (r := 13) (a := 45) (n := 3) (by decide) rfl (by omega) _ h)⟩, fun r71 h71 p71 => ?_⟩
        obtain ⟨rfl, rfl⟩ := p71
        rw [fa_and, nI_eq0 (by omega), sh_0 K A y _ (fun k hk => lnB_bit K A k hk)] at c50
        rw [if_neg c50] at hnq
        have hnp : newP K A s = y := by unfold newP; rw [if_pos ⟨hq, hnq⟩, hyt]
        refine ⟨rfl, ?_⟩
        rw [hnq, hnp, up2_same (S := h.1) (i := 47) (by rw [m5, hq]), ey]
      · refine ⟨_, ⟨_, by decide, (ct_Row_put (r := 15) (a := 47) (n := 3) (by decide) rfl (by omega) 2 h)⟩, fun r59 h59 p59 => ?_⟩
        obtain ⟨rfl, rfl⟩ := p59
        rw [fa_and, nI_eq0 (by omega), sh_0 K A y _ (fun k hk => lnB_bit K A k hk)] at c50
        rw [if_pos c50] at hnq
        have hnp : newP K A s = aP A s := by unfold newP; rw [if_neg (fun h9 => by rw [hnq] at h9; exact absurd h9.2 (by decide))]
        refine ⟨rfl, ?_⟩
        rw [hnq, hnp]
        rw [up2_same (S := up2 h.1 47 s (nI 2)) (by rw [up2_a _ _ _ _ (by decide)]; exact m1)]
        rfl
    · exact absurd c22 (by decide)
def PB3 (a _b : Nat) : Prop := a = 45 ∨ a = 47
theorem CSt.n3 {K : KF} {h h' : Hp} (a : CSt K h) (f : Fr PN3 h h') : CSt K h' := by
  obtain ⟨⟨⟨a1, a2⟩, ⟨a3, a4⟩, ⟨a5, a6⟩, a7⟩, a8⟩ := a
  refine ⟨⟨⟨?_, a2⟩, ⟨?_, a4⟩, ⟨?_, a6⟩, fun k hk => ?_⟩, fun x hx => ?_⟩
  · rw [f.1 2 3 (by unfold PN3; omega)]; exact a1
  · rw [f.1 2 4 (by unfold PN3; omega)]; exact a3
  · rw [f.1 2 5 (by unfold PN3; omega)]; exact a5
  · rw [f.1 42 k (by unfold PN3; omega), f.1 43 k (by unfold PN3; omega)]; exact a7 k hk
  · rw [f.1 44 x (by unfold PN3; omega)]; exact a8 x hx
theorem ct_Night_passBreath_3 {K : KF} {A : AS} {q3 q4 : Nat → Int32} {F : Nat} {h : Hp} (hs : CSt K h) (hn : CN3 K A q3 q4 F h) : Ct 2 md_Night_passBreath [.ref 3] h (fun r h' => r = some (.int (nI (lostN K A))) ∧ CN3 K (stepA K A) q3 q4 F h' ∧ Fr PN3 h h') := by
  refine Ct_of 2 rfl rfl rfl (fun X C => ?_)
  obtain ⟨⟨s1, s2⟩, -⟩ := hs.1
  obtain ⟨⟨n1, n2⟩, n3, n4, ⟨n5, n6⟩, n7⟩ := id hn
  have loop2 : ∀ (n i : Nat) (b : Int32) (hh : Hp), i + n = kL K → b = nI i → GC 45 47 K A (kN K) hh → (∀ k, k < kL K → hh.1 48 k = nI (if k < i then aD A k - 1 else aD A k)) → (Fr (fun a _ => a = 45 ∨ a = 47 ∨ a = 48) h hh) → V X 57 [some (.ref 3), some (.int (nI (lnB K A))), some (.int (nI (lostN K A))), some (.int b)] [] hh := by
    intro n
    induction n with
    | zero =>
      intro i b hh hi hb hg hd hf
      subst hb
      obtain rfl : i = kL K := by omega
      have e1 : hh.1 2 3 = nI (kL K) := by rw [hf.1 2 3 (by omega)]; exact s1
      refine V_go C tk_Night_passBreath [9, 57] 78 ?_
      refine And.intro (fun c65 => ?_) (fun c65 => ?_)
      · refine ⟨rfl, ⟨⟨?_, n2⟩, fun s hsn => ?_, fun k hk => ?_, ⟨?_, n6⟩, ?_⟩, (hf.mono (Q := PN3) (fun a b h9 => by unfold PN3; omega)).up (by unfold PN3; omega)⟩
        · simp [up2]; rw [hf.1 3 7 (by omega)]; exact n1
        · obtain ⟨⟨m1, m2⟩, ⟨m3, m4⟩, m5, m6⟩ := n3 s hsn
          obtain ⟨g1, -⟩ := hg s hsn
          obtain ⟨g2, g3⟩ := g1 hsn
          simp [up2]
          exact ⟨⟨g2, newP_lt K A m2⟩, ⟨by rw [hf.1 46 s (by omega)]; exact m3, m4⟩, g3, newQ_le K A m6⟩
        · obtain ⟨⟨m1, m2⟩, m3, m4⟩ := n4 k hk
          have hdk := hd k hk
          rw [if_pos hk] at hdk
          simp [up2]
          exact ⟨⟨hdk, by show aD A k - 1 ≤ 9; omega⟩, by rw [hf.1 49 k (by omega)]; exact m3, by rw [hf.1 50 k (by omega)]; exact m4⟩
        · simp [up2]; rw [hf.1 3 8 (by omega)]; exact n5
        · simp [up2]; rw [hf.1 3 9 (by omega), n7]; rfl
      · exact absurd (nle e1) c65
    | succ n ih =>
      intro i b hh hi hb hg hd hf
      subst hb
      have e1 : hh.1 2 3 = nI (kL K) := by rw [hf.1 2 3 (by omega)]; exact s1
      have hdi := hd i (by omega)
      rw [if_neg (Nat.lt_irrefl i)] at hdi
      have d2 := (n4 i (by omega)).1.2
      have em : (if (0 : Int32) < nI (aD A i) - 1 then nI (aD A i) - 1 else 0) = nI (aD A i - 1) := by
        rcases Nat.eq_zero_or_pos (aD A i) with h9 | h9
        · rw [h9]; decide
        · rw [show nI (aD A i) - 1 = nI (aD A i - 1) from pk_sub (b := 1) h9]
          split
          · rfl
          · rename_i h8
            have : ¬ 0 < aD A i - 1 := fun h7 => h8 (nI_lt (a := 0) h7 (by omega))
            rw [show aD A i - 1 = 0 by omega]; rfl
      refine V_go C tk_Night_passBreath [9, 57] 78 ?_
      refine And.intro (fun c65 => ?_) (fun c65 => ?_)
      · exact absurd c65 (nge (by omega) (by omega) e1)
      · refine ⟨_, ⟨_, by decide, (ct_Row_at (r := 16) (a := 48) (n := 5) (by decide) rfl (by omega) hh)⟩, fun r79 h79 p79 => ?_⟩
        rw [hdi] at p79
        obtain ⟨rfl, rfl⟩ := p79
        refine ⟨_, ⟨_, by decide, (ct_Row_put (r := 16) (a := 48) (n := 5) (by decide) rfl (by omega) _ _)⟩, fun r87 h87 p87 => ?_⟩
        rw [em] at p87
        obtain ⟨rfl, rfl⟩ := p87
        refine ih (i + 1) _ _ (by omega) (nI_1 i) (fun s hsn => by simp [up2]; exact hg s hsn) (fun k hk => ?_) (hf.up (by omega))
        by_cases hki : k = i
        · subst hki; simp [up2]
        · simp [up2, hki]
          rw [hd k hk]
          by_cases h9 : k < i
          · rw [if_pos h9, if_pos (by omega)]
          · rw [if_neg h9, if_neg (by omega)]
  have loop1 : ∀ (n i : Nat) (m b : Int32) (hh : Hp), i + n = kN K → m = nI (cnt (fun s => decide (aQ A s = 0) && decide (newQ K A s = 2)) i) → b = nI i → GC 45 47 K A i hh → Fr PB3 h hh → V X 9 [some (.ref 3), some (.int (nI (lnB K A))), some (.int m), some (.int b)] [] hh := by
    intro n
    induction n with
    | zero =>
      intro i m b hh hi hm hb hg hf
      subst hb
      obtain rfl : i = kN K := by omega
      have e1 : hh.1 3 7 = nI (kN K) := by rw [hf.1 3 7 (by unfold PB3; omega)]; exact n1
      refine V_go C tk_Night_passBreath [9, 57] 78 ?_
      refine And.intro (fun c14 => ?_) (fun c14 => ?_)
      · rw [hm]
        refine loop2 (kL K) 0 _ _ (by omega) rfl hg (fun k hk => ?_) (hf.mono (fun a b h9 => by unfold PB3 at h9; omega))
        rw [if_neg (Nat.not_lt_zero k), hf.1 48 k (by unfold PB3; omega)]
        exact (n4 k hk).1.1
      · exact absurd (nle e1) c14
    | succ n ih =>
      intro i m b hh hi hm hb hg hf
      subst hb
      have hiN : i < kN K := by omega
      have e1 : hh.1 3 7 = nI (kN K) := by rw [hf.1 3 7 (by unfold PB3; omega)]; exact n1
      obtain ⟨⟨m1, m2⟩, ⟨m3, m4⟩, m5, m6⟩ := n3 i hiN
      obtain ⟨g1, g2⟩ := (hg i hiN).2 (Nat.le_refl i)
      have ec : cnt (fun s => decide (aQ A s = 0) && decide (newQ K A s = 2)) (i + 1) = cnt (fun s => decide (aQ A s = 0) && decide (newQ K A s = 2)) i + (bif decide (aQ A i = 0) && decide (newQ K A i = 2) then 1 else 0) := rfl
      have hs' : CSt K hh := hs.n3 (hf.mono (fun a b h9 => by unfold PB3 at h9; unfold PN3; omega))
      have m3' : hh.1 46 i = Int32.ofInt (kC K i) := by rw [hf.1 46 i (by unfold PB3; omega)]; exact m3
      have hnq := newQ_le K A m6
      by_cases hq : aQ A i = 0
      · rw [decide_eq_true hq, Bool.true_and] at ec
        have nx : Fr PB3 h (up2 (up2 hh.1 47 i (nI (newQ K A i))) 45 i (nI (newP K A i)), hh.2) := (hf.up (i := 47) (j := i) (x := nI (newQ K A i)) (by unfold PB3; omega)).up (by unfold PB3; omega)
        refine V_go C tk_Night_passBreath [9, 57] 78 ?_
        refine And.intro (fun c14 => ?_) (fun c14 => ?_)
        · exact absurd c14 (nge (by omega) (by omega) e1)
        · refine ⟨_, ⟨_, by decide, (ct_Row_at (r := 15) (a := 47) (n := 3) (by decide) rfl (by omega) hh)⟩, fun r22 h22 p22 => ?_⟩
          rw [g2, hq] at p22
          obtain ⟨rfl, rfl⟩ := p22
          refine And.intro (fun c25 => ?_) (fun c25 => ?_)
          · exact absurd rfl c25
          · refine ⟨_, ⟨_, by decide, (ct_Night_sail_3 (K := K) (A := A) hs' (by omega) g1 m2 m3' m4 g2 hq)⟩, fun r31 h31 p31 => ?_⟩
            obtain ⟨rfl, rfl⟩ := p31
            refine ⟨_, ⟨_, by decide, (ct_Row_at (r := 15) (a := 47) (n := 3) (by decide) rfl (by omega) _)⟩, fun r39 h39 p39 => ?_⟩
            obtain ⟨p39, rfl⟩ := p39
            have e39 : r39 = some (.int (nI (newQ K A i))) := by rw [p39]; simp [up2]
            clear p39
            subst e39
            refine And.intro (fun c43 => ?_) (fun c43 => ?_)
            · have c43' : ¬ newQ K A i = 2 := fun h9 => c43 (by rw [h9]; rfl)
              exact ih (i + 1) _ _ _ (by omega) (by rw [hm, ec, decide_eq_false c43']; rfl) (nI_1 i) (GC_step (by decide) hg rfl rfl) nx
            · have c43' : newQ K A i = 2 := nI_inj (by omega) (by decide) c43
              exact ih (i + 1) _ _ _ (by omega) (by rw [hm, ec, decide_eq_true c43']; exact nI_1 _) (nI_1 i) (GC_step (by decide) hg rfl rfl) nx
      · rw [decide_eq_false hq, Bool.false_and] at ec
        refine V_go C tk_Night_passBreath [9, 57] 78 ?_
        refine And.intro (fun c14 => ?_) (fun c14 => ?_)
        · exact absurd c14 (nge (by omega) (by omega) e1)
        · refine ⟨_, ⟨_, by decide, (ct_Row_at (r := 15) (a := 47) (n := 3) (by decide) rfl (by omega) hh)⟩, fun r22 h22 p22 => ?_⟩
          rw [g2] at p22
          obtain ⟨rfl, rfl⟩ := p22
          refine And.intro (fun c25 => ?_) (fun c25 => ?_)
          · exact ih (i + 1) _ _ _ (by omega) (by rw [hm, ec]; rfl) (nI_1 i) (GC_same hg hiN hq) hf
          · exact absurd ((nI_eq0 (by omega)).mp c25) hq
  refine V_go C tk_Night_passBreath [9, 57] 78 ?_
  refine ⟨_, ⟨_, by decide, (ct_Night_litNow_3 hs hn)⟩, fun r1 h1 p1 => ?_⟩
  obtain ⟨rfl, rfl⟩ := p1
  refine loop1 (kN K) 0 _ _ _ (by omega) rfl rfl (fun s hsn => ⟨fun h9 => absurd h9 (Nat.not_lt_zero s), fun _ => ?_⟩) Fr.rf
  obtain ⟨⟨m1, m2⟩, -, m5, m6⟩ := n3 s hsn
  exact ⟨m1, m5⟩
def an33 (q3 : Nat → Int32) (k : Nat) : Nat → Int32 := fun j => if j = k then q3 j + 1 else q3 j
def an43 (q4 : Nat → Int32) (k : Nat) (y : Bool) : Nat → Int32 := fun j => if j = k ∧ y = false then q4 j + 1 else q4 j
theorem ct_Night_answer_3 {K : KF} {A : AS} {q3 q4 : Nat → Int32} {F : Nat} {h : Hp} (hs : CSt K h) (hn : CN3 K A q3 q4 F h) {k f : Nat} (hk : k < kL K) (hf : f < 4) (t : Bool) (hd0 : aD A k = 0) : Ct 4 md_Night_answer [.ref 3, .int (nI k), .int (nI f), .int (tI t)] h (fun r h' => r = some (.int (tI (ansY K A F k f t))) ∧ CN3 K (ansA K A k (ansY K A F k f t)) (an33 q3 k) (an43 q4 k (ansY K A F k f t)) F h' ∧ Fr PN3 h h') := by
  refine Ct_of 2 rfl rfl rfl (fun X C => ?_)
  obtain ⟨⟨s1, s2⟩, -, ⟨s3, s4⟩, s5⟩ := hs.1
  obtain ⟨⟨k1, k2⟩, -⟩ := s5 k hk
  obtain ⟨⟨n1, n2⟩, n3, n4, ⟨n5, n6⟩, n7⟩ := id hn
  obtain ⟨⟨d1, d2⟩, d3, d4⟩ := n4 k hk
  have L53 : ∀ (y : Int32) (r4 : Int32) (r5 : Option Value), y = tI (ansY K A F k f t) → V X 53 [some (.ref 3), some (.int (nI k)), some (.int (nI f)), some (.int (tI t)), some (.int r4), r5] [.int y] h := by
    intro y r4 r5 hy
    subst hy
    refine V_go C tk_Night_answer [] 78 ?_
    refine ⟨_, ⟨_, by decide, (ct_Row_at (r := 17) (a := 49) (n := 5) (by decide) rfl (by omega) h)⟩, fun r65 h65 p65 => ?_⟩
    obtain ⟨rfl, rfl⟩ := p65
    refine ⟨_, ⟨_, by decide, (ct_Row_put (r := 17) (a := 49) (n := 5) (by decide) rfl (by omega) _ h)⟩, fun r70 h70 p70 => ?_⟩
    obtain ⟨rfl, rfl⟩ := p70
    refine And.intro (fun c75 => ?_) (fun c75 => ?_)
    · rw [tI_n] at c75
      refine ⟨tI_01 _, rfl, ⟨⟨?_, n2⟩, fun s hsn => ?_, fun j hj => ?_, ⟨?_, n6⟩, ?_⟩, Fr.rf.up (by unfold PN3; omega)⟩
      · simp [up2]; exact n1
      · have := n3 s hsn
        simp [up2]
        simpa [ansA, aP, aQ] using this
      · have := n4 j hj
        rw [c75]
        by_cases h9 : j = k
        · subst h9
          simp [up2, ansA, aD, an33, an43]
          rw [hd0] at d1
          exact ⟨d1, d3, d4⟩
        · simp [up2, ansA, aD, an33, an43, h9]
          simpa [aD] using this
      · simp [up2]; exact n5
      · simp [up2]; exact n7
    · refine ⟨_, ⟨_, by decide, (ct_Row_at (r := 18) (a := 50) (n := 5) (by decide) rfl (by omega) _)⟩, fun r88 h88 p88 => ?_⟩
      obtain ⟨rfl, rfl⟩ := p88
      refine ⟨_, ⟨_, by decide, (ct_Row_put (r := 18) (a := 50) (n := 5) (by decide) rfl (by omega) _ _)⟩, fun r93 h93 p93 => ?_⟩
      obtain ⟨rfl, rfl⟩ := p93
      refine ⟨_, ⟨_, by decide, (ct_Row_put (r := 16) (a := 48) (n := 5) (by decide) rfl (by omega) _ _)⟩, fun r108 h108 p108 => ?_⟩
      obtain ⟨rfl, rfl⟩ := p108
      rw [tI_0] at c75
      refine ⟨tI_01 _, rfl, ⟨⟨?_, n2⟩, fun s hsn => ?_, fun j hj => ?_, ⟨?_, n6⟩, ?_⟩, ((Fr.rf.up (by unfold PN3; omega)).up (by unfold PN3; omega)).up (by unfold PN3; omega)⟩
      · simp [up2]; exact n1
      · have := n3 s hsn
        simp [up2]
        simpa [ansA, aP, aQ] using this
      · have := n4 j hj
        rw [c75]
        by_cases h9 : j = k
        · subst h9
          simp [up2, ansA, aD, an33, an43]
          exact ⟨⟨s3, s4⟩, by rw [d3], by rw [d4]⟩
        · simp [up2, ansA, aD, an33, an43, h9]
          simpa [aD] using this
      · simp [up2]; exact n5
      · simp [up2]; exact n7
  refine V_go C tk_Night_answer [53] 78 ?_
  refine ⟨_, ⟨_, by decide, (ct_Row_at (r := 10) (a := 42) (n := 5) (by decide) rfl (by omega) h)⟩, fun r8 h8 p8 => ?_⟩
  rw [k1] at p8
  obtain ⟨rfl, rfl⟩ := p8
  refine ⟨_, ⟨_, by decide, (ct_GD_isTrueN n5 rfl n6 hf t h)⟩, fun r21 h21 p21 => ?_⟩
  obtain ⟨rfl, rfl⟩ := p21
  refine ⟨_, ⟨_, by decide, (ct_GD_saysYes _ _ _ h)⟩, fun r28 h28 p28 => ?_⟩
  rw [n7] at p28
  obtain ⟨rfl, rfl⟩ := p28
  refine And.intro (fun c31 => ?_) (fun c31 => ?_)
  · rw [tI_n] at c31
    exact L53 _ _ _ (by unfold ansY; rw [c31]; rfl)
  · refine And.intro (fun c37 => ?_) (fun c37 => ?_)
    · rw [tI_0] at c31
      have h2 : ¬ kK K k = 2 := fun h9 => c37 (by rw [h9]; rfl)
      exact L53 _ _ _ (by unfold ansY; rw [c31, decide_eq_false h2]; rfl)
    · refine ⟨_, ⟨_, by decide, (ct_Night_mayGoDark_3 hs hn hk)⟩, fun r42 h42 p42 => ?_⟩
      obtain ⟨rfl, rfl⟩ := p42
      refine And.intro (fun c45 => ?_) (fun c45 => ?_)
      · rw [tI_0] at c31
        rw [tI_n] at c45
        exact L53 _ _ _ (by unfold ansY; rw [c31, c45, Bool.not_true, Bool.and_false]; rfl)
      · rw [tI_0] at c31
        rw [tI_0] at c45
        have h2 : kK K k = 2 := nI_inj (by omega) (by decide) c37
        exact L53 _ _ _ (by unfold ansY; rw [c31, c45, decide_eq_true h2]; rfl)
/-! the night of cell 5 -/
def CN5 (K : KF) (A : AS) (q3 q4 : Nat → Int32) (F : Nat) (h : Hp) : Prop := (h.1 5 7 = nI (kN K) ∧ kN K ≤ 3) ∧ (∀ s, s < kN K → (h.1 57 s = nI (aP A s) ∧ aP A s < 10) ∧ (h.1 58 s = Int32.ofInt (kC K s) ∧ -1 ≤ kC K s ∧ kC K s ≤ 1) ∧ h.1 59 s = nI (aQ A s) ∧ aQ A s ≤ 2) ∧ (∀ k, k < kL K → (h.1 60 k = nI (aD A k) ∧ aD A k ≤ 9) ∧ h.1 61 k = q3 k ∧ h.1 62 k = q4 k) ∧ (h.1 5 8 = nI F ∧ F < 16) ∧ h.1 5 9 = aB A
def PN5 (a _b : Nat) : Prop := a = 5 ∨ (57 ≤ a ∧ a ≤ 62)
theorem ct_Night_litNow_5 {K : KF} {A : AS} {q3 q4 : Nat → Int32} {F : Nat} {h : Hp} (hs : CSt K h) (hn : CN5 K A q3 q4 F h) : Ct 1 md_Night_litNow [.ref 5] h (ex (.int (nI (lnB K A))) h) := by
  refine Ct_of 2 rfl rfl rfl (fun X C => ?_)
  obtain ⟨⟨s1, s2⟩, -⟩ := hs.1
  have hp : 0 < 2 ^ kL K := Nat.two_pow_pos _
  have e1 : (1 : Int32) <<< (nI (kL K) &&& 31) - 1 = nI (2 ^ kL K - 1) := by
    rw [shl1 (by omega)]
    exact pk_sub (b := 1) hp
  refine V_go C tk_Night_litNow [] 33 ?_
  refine ⟨_, ⟨_, by decide, (ct_Row_bitsBelow (r := 28) (a := 60) (by decide) 1 h)⟩, fun r5 h5 p5 => ?_⟩
  obtain ⟨rfl, rfl⟩ := p5
  exact ⟨by rw [s1, e1, fa_and, lit_and s2 (fun k hk => (hn.2.2.1 k hk).1)], rfl⟩
theorem ct_Night_isLostBy_5 {K : KF} {A : AS} {q3 q4 : Nat → Int32} {F : Nat} {h : Hp} (hs : CSt K h) (hn : CN5 K A q3 q4 F h) {set s : Nat} (hset : set < 32) (hsn : s < kN K) (hq0 : aQ A s = 0) : Ct 1 md_Night_isLostBy [.ref 5, .int (nI set), .int (nI s)] h (ex (.int (tI (lp K s (kD K) (goDark K A set)))) h) := by
  refine Ct_of 2 rfl rfl rfl (fun X C => ?_)
  obtain ⟨⟨s1, s2⟩, -, ⟨s3, s4⟩, -⟩ := hs.1
  obtain ⟨⟨n1, n2⟩, n3, n4, -, -⟩ := id hn
  obtain ⟨⟨m1, m2⟩, ⟨m3, m4⟩, -, -⟩ := n3 s hsn
  have loop : ∀ (n g : Nat) (B : AS) (x b : Int32) (r5 : Option Value), g + n = kD K + 1 → 1 ≤ g → b = nI g → x = nI (aP B s) → aP B s < 10 → aQ B s = 0 → (∀ k, k < kL K → aD B k = (if set.testBit k then kD K else aD A k) - (g - 1)) → lp K s n B = lp K s (kD K) (goDark K A set) → V X 12 [some (.ref 5), some (.int (nI set)), some (.int (nI s)), some (.int x), some (.int b), r5] [] h := by
    intro n
    induction n with
    | zero =>
      intro g B x b r5 hg hg1 hb hx hp hq hd he
      subst hb
      refine V_go C tk_Night_isLostBy [12] 67 ?_
      refine And.intro (fun c21 => ?_) (fun c21 => ?_)
      · exact ⟨by decide, by rw [← he]; rfl, rfl⟩
      · exact absurd (by rw [s3]; exact nI_lt (by omega) (by omega)) c21
    | succ n ih =>
      intro g B x b r5 hg hg1 hb hx hp hq hd he
      subst hb
      subst hx
      have et := toP_i (K := K) (A := B) hp m4
      have he' : (if newQ K B s = 1 then false else if newQ K B s = 2 then true else lp K s n (stepA K B)) = lp K s (kD K) (goDark K A set) := he
      by_cases hin : toP K B s < 0 ∨ 9 < toP K B s
      · have hnq : newQ K B s = 1 := by unfold newQ; rw [if_pos hq, if_pos hin]
        have hir : inR (Int32.ofInt (toP K B s)) 10 = false := by
          unfold inR
          rw [toInt_ofInt (by unfold toP; omega) (by unfold toP; omega)]
          rcases hin with h9 | h9
          · rw [decide_eq_false (by omega)]; rfl
          · rw [decide_eq_false (show ¬ toP K B s < ((10 : Nat) : Int) by omega), Bool.and_false]
        rw [if_pos hnq] at he'
        refine V_go C tk_Night_isLostBy [12] 67 ?_
        refine And.intro (fun c21 => ?_) (fun c21 => ?_)
        · rw [s3] at c21; exact absurd c21 (nI_nlt (by omega) (by omega))
        · refine ⟨_, ⟨_, by decide, (ct_Row_at (r := 26) (a := 58) (n := 3) (by decide) rfl (by omega) h)⟩, fun r30 h30 p30 => ?_⟩
          rw [m3] at p30
          obtain ⟨rfl, rfl⟩ := p30
          refine ⟨_, ⟨_, by decide, (ct_GD_isPlace _ h)⟩, fun r36 h36 p36 => ?_⟩
          rw [et, hir] at p36
          obtain ⟨rfl, rfl⟩ := p36
          refine And.intro (fun c39 => ?_) (fun c39 => ?_)
          · exact absurd rfl c39
          · exact ⟨by decide, by rw [← he']; rfl, rfl⟩
      · obtain ⟨y, hy10, hy⟩ : ∃ y : Nat, y < 10 ∧ toP K B s = (y : Int) := ⟨(toP K B s).toNat, by omega, by omega⟩
        have hyt : (toP K B s).toNat = y := by omega
        have ey : nI (aP B s) + Int32.ofInt (kC K s) = nI y := by rw [et, hy]; exact ofInt_nat y
        have hnq : newQ K B s = if shine K B y = 0 then 2 else 0 := by unfold newQ; rw [if_pos hq, if_neg hin, hyt]
        have hlt5 : msk (fun k => decide (h.1 60 k < nI g)) 5 < 32 := msk_lt _ 5
        have el : nI (msk (fun k => decide (h.1 60 k < nI g)) 5) &&& (nI set ^^^ -1) = nI (msk (fun k => decide (h.1 60 k < nI g)) 5 &&& (65535 ^^^ set)) := and_not (by omega) (by omega)
        have hbt : ∀ k, k < kL K → (msk (fun k => decide (h.1 60 k < nI g)) 5 &&& (65535 ^^^ set)).testBit k = litA B k := by
          intro k hk
          obtain ⟨⟨d1, d2⟩, -⟩ := n4 k hk
          rw [Nat.testBit_and, msk_bit, decide_eq_true (show k < 5 by omega), Bool.true_and, Nat.testBit_xor, show (65535 : Nat) = 2 ^ 16 - 1 from rfl, Nat.testBit_two_pow_sub_one, decide_eq_true (show k < 16 by omega)]
          show (decide (h.1 60 k < nI g) && _) = _
          rw [d1]
          unfold litA
          rw [hd k hk]
          have hlt := nI_lt' (a := aD A k) (b := g) (by omega) (by omega)
          cases hb : set.testBit k with
          | true =>
            simp only [if_true, Bool.xor_true, Bool.not_true, Bool.and_false]
            rw [eq_comm, decide_eq_false_iff_not]
            omega
          | false =>
            simp only [Bool.false_eq_true, if_false, Bool.xor_false, Bool.and_true]
            apply decide_eq_decide.mpr
            rw [hlt]
            omega
        have hir : inR (nI y) 10 = true := inR_nI hy10 (by decide)
        have hle : shN' K y &&& (msk (fun k => decide (h.1 60 k < nI g)) 5 &&& (65535 ^^^ set)) ≤ shN' K y := Nat.and_le_left
        have hsl := shN_lt K y s2
        refine V_go C tk_Night_isLostBy [12] 67 ?_
        refine And.intro (fun c21 => ?_) (fun c21 => ?_)
        · rw [s3] at c21; exact absurd c21 (nI_nlt (by omega) (by omega))
        · refine ⟨_, ⟨_, by decide, (ct_Row_at (r := 26) (a := 58) (n := 3) (by decide) rfl (by omega) h)⟩, fun r30 h30 p30 => ?_⟩
          rw [m3] at p30
          obtain ⟨rfl, rfl⟩ := p30
          refine ⟨_, ⟨_, by decide, (ct_GD_isPlace _ h)⟩, fun r36 h36 p36 => ?_⟩
          rw [ey, hir] at p36
          obtain ⟨rfl, rfl⟩ := p36
          refine And.intro (fun c39 => ?_) (fun c39 => ?_)
          · refine ⟨_, ⟨_, by decide, (ct_Row_bitsBelow (r := 28) (a := 60) (by decide) (nI g) h)⟩, fun r50 h50 p50 => ?_⟩
            obtain ⟨rfl, rfl⟩ := p50
            refine ⟨_, ⟨_, by decide, (ct_Row_at (r := 12) (a := 44) (n := 10) (by decide) ey hy10 h)⟩, fun r67 h67 p67 => ?_⟩
            rw [hs.2 y hy10] at p67
            obtain ⟨rfl, rfl⟩ := p67
            refine And.intro (fun c73 => ?_) (fun c73 => ?_)
            · rw [el, fa_and, nI_eq0 (by omega), sh_0 K B y _ hbt] at c73
              rw [if_neg c73] at hnq
              rw [hnq] at he'
              refine ih (g + 1) (stepA K B) _ _ _ (by omega) (by omega) (nI_1 g) (by rw [ey]; show nI y = nI (newP K B s); unfold newP; rw [if_pos ⟨hq, hnq⟩, hyt]) (newP_lt K B hp) hnq (fun k hk => ?_) he'
              show aD B k - 1 = _
              rw [hd k hk]
              omega
            · rw [el, fa_and, nI_eq0 (by omega), sh_0 K B y _ hbt] at c73
              rw [if_pos c73] at hnq
              rw [hnq] at he'
              exact ⟨by decide, by rw [← he']; rfl, rfl⟩
          · exact absurd c39 (by decide)
  refine V_go C tk_Night_isLostBy [12] 67 ?_
  refine ⟨_, ⟨_, by decide, (ct_Row_at (r := 25) (a := 57) (n := 3) (by decide) rfl (by omega) h)⟩, fun r5 h5 p5 => ?_⟩
  rw [m1] at p5
  obtain ⟨rfl, rfl⟩ := p5
  exact loop (kD K) 1 (goDark K A set) _ _ _ (by omega) (by omega) rfl rfl m2 hq0 (fun k hk => rfl) rfl
theorem ct_Night_lostBy_5 {K : KF} {A : AS} {q3 q4 : Nat → Int32} {F : Nat} {h : Hp} (hs : CSt K h) (hn : CN5 K A q3 q4 F h) {set : Nat} {z : Int32} (hz : z = nI set) (hset : set < 32) : Ct 2 md_Night_lostBy [.ref 5, .int z] h (ex (.int (nI (lostBy K A set))) h) := by
  subst hz
  refine Ct_of 2 rfl rfl rfl (fun X C => ?_)
  obtain ⟨⟨n1, n2⟩, n3, -, -, -⟩ := id hn
  have key : lostBy K A set = cnt (fun s => decide (aQ A s = 0) && lp K s (kD K) (goDark K A set)) (kN K) := lostIn_lp K (kD K) (goDark K A set)
  have loop : ∀ (n i : Nat) (m b : Int32), i + n = kN K → m = nI (cnt (fun s => decide (aQ A s = 0) && lp K s (kD K) (goDark K A set)) i) → b = nI i → V X 4 [some (.ref 5), some (.int (nI set)), some (.int m), some (.int b)] [] h := by
    intro n
    induction n with
    | zero =>
      intro i m b hi hm hb
      subst hb
      obtain rfl : i = kN K := by omega
      refine V_go C tk_Night_lostBy [4] 43 ?_
      refine And.intro (fun c9 => ?_) (fun c9 => ?_)
      · exact ⟨by rw [hm, key], rfl⟩
      · exact absurd (nle n1) c9
    | succ n ih =>
      intro i m b hi hm hb
      subst hb
      obtain ⟨-, -, m5, m6⟩ := n3 i (by omega)
      have ec : cnt (fun s => decide (aQ A s = 0) && lp K s (kD K) (goDark K A set)) (i + 1) = cnt (fun s => decide (aQ A s = 0) && lp K s (kD K) (goDark K A set)) i + (bif decide (aQ A i = 0) && lp K i (kD K) (goDark K A set) then 1 else 0) := rfl
      by_cases hq : aQ A i = 0
      · rw [decide_eq_true hq, Bool.true_and] at ec
        refine V_go C tk_Night_lostBy [4] 43 ?_
        refine And.intro (fun c9 => ?_) (fun c9 => ?_)
        · exact absurd c9 (nge (by omega) (by omega) n1)
        · refine ⟨_, ⟨_, by decide, (ct_Row_at (r := 27) (a := 59) (n := 3) (by decide) rfl (by omega) h)⟩, fun r17 h17 p17 => ?_⟩
          rw [m5, hq] at p17
          obtain ⟨rfl, rfl⟩ := p17
          refine And.intro (fun c20 => ?_) (fun c20 => ?_)
          · exact absurd rfl c20
          · refine ⟨_, ⟨_, by decide, (ct_Night_isLostBy_5 hs hn hset (by omega) hq)⟩, fun r26 h26 p26 => ?_⟩
            obtain ⟨rfl, rfl⟩ := p26
            refine And.intro (fun c29 => ?_) (fun c29 => ?_)
            · rw [tI_0] at c29
              exact ih (i + 1) _ _ (by omega) (by rw [hm, ec, c29]; rfl) (nI_1 i)
            · rw [tI_n] at c29
              exact ih (i + 1) _ _ (by omega) (by rw [hm, ec, c29]; exact nI_1 _) (nI_1 i)
      · rw [decide_eq_false hq, Bool.false_and] at ec
        refine V_go C tk_Night_lostBy [4] 43 ?_
        refine And.intro (fun c9 => ?_) (fun c9 => ?_)
        · exact absurd c9 (nge (by omega) (by omega) n1)
        · refine ⟨_, ⟨_, by decide, (ct_Row_at (r := 27) (a := 59) (n := 3) (by decide) rfl (by omega) h)⟩, fun r17 h17 p17 => ?_⟩
          rw [m5] at p17
          obtain ⟨rfl, rfl⟩ := p17
          refine And.intro (fun c20 => ?_) (fun c20 => ?_)
          · exact ih (i + 1) _ _ (by omega) (by rw [hm, ec]; rfl) (nI_1 i)
          · exact absurd ((nI_eq0 (by omega)).mp c20) hq
  refine V_go C tk_Night_lostBy [4] 43 ?_
  exact loop (kN K) 0 _ _ (by omega) rfl rfl
theorem ct_Night_mayGoDark_5 {K : KF} {A : AS} {q3 q4 : Nat → Int32} {F : Nat} {h : Hp} (hs : CSt K h) (hn : CN5 K A q3 q4 F h) {k : Nat} (hk : k < kL K) : Ct 3 md_Night_mayGoDark [.ref 5, .int (nI k)] h (ex (.int (tI (mayGo K A k))) h) := by
  refine Ct_of 2 rfl rfl rfl (fun X C => ?_)
  have hL5 := hs.1.1.2
  have l0 := lostBy_le K A 0 hs.1.2.2.1.2 hn.1.2
  have l1 := lostBy_le K A (2 ^ k) hs.1.2.2.1.2 hn.1.2
  obtain ⟨⟨d1, d2⟩, -⟩ := hn.2.2.1 k hk
  have hk2 : (2 : Nat) ^ k < 32 := pow5 (by omega)
  unfold mayGo litA at C
  by_cases hd : aD A k = 0
  · rw [decide_eq_true hd, Bool.true_and] at C
    refine V_go C tk_Night_mayGoDark [] 38 ?_
    refine ⟨_, ⟨_, by decide, (ct_Row_at (r := 28) (a := 60) (n := 5) (by decide) rfl (by omega) h)⟩, fun r5 h5 p5 => ?_⟩
    rw [d1, hd] at p5
    obtain ⟨rfl, rfl⟩ := p5
    refine And.intro (fun c8 => ?_) (fun c8 => ?_)
    · exact absurd rfl c8
    · refine ⟨_, ⟨_, by decide, (ct_Night_lostBy_5 hs hn (set := 2 ^ k) (shl1 (by omega)) hk2)⟩, fun r15 h15 p15 => ?_⟩
      obtain ⟨rfl, rfl⟩ := p15
      refine ⟨_, ⟨_, by decide, (ct_Night_lostBy_5 hs hn (set := 0) rfl (by decide))⟩, fun r20 h20 p20 => ?_⟩
      obtain ⟨rfl, rfl⟩ := p20
      refine And.intro (fun c23 => ?_) (fun c23 => ?_)
      · rw [nI_lt' (by omega) (by omega)] at c23
        exact ⟨by decide, by rw [decide_eq_false (by omega)]; rfl, rfl⟩
      · rw [nI_lt' (by omega) (by omega)] at c23
        exact ⟨by decide, by rw [decide_eq_true (by omega)]; rfl, rfl⟩
  · rw [decide_eq_false hd, Bool.false_and] at C
    refine V_go C tk_Night_mayGoDark [] 38 ?_
    refine ⟨_, ⟨_, by decide, (ct_Row_at (r := 28) (a := 60) (n := 5) (by decide) rfl (by omega) h)⟩, fun r5 h5 p5 => ?_⟩
    rw [d1] at p5
    obtain ⟨rfl, rfl⟩ := p5
    refine And.intro (fun c8 => ?_) (fun c8 => ?_)
    · exact ⟨by decide, rfl, rfl⟩
    · exact absurd ((nI_eq0 (by omega)).mp c8) hd
theorem ct_Night_sail_5 {K : KF} {A : AS} {h : Hp} (hs : CSt K h) {s : Nat} (hsn : s < 3) (m1 : h.1 57 s = nI (aP A s)) (m2 : aP A s < 10) (m3 : h.1 58 s = Int32.ofInt (kC K s)) (m4 : -1 ≤ kC K s ∧ kC K s ≤ 1) (m5 : h.1 59 s = nI (aQ A s)) (hq : aQ A s = 0) : Ct 1 md_Night_sail [.ref 5, .int (nI s), .int (nI (lnB K A))] h (exV (up2 (up2 h.1 59 s (nI (newQ K A s))) 57 s (nI (newP K A s)), h.2)) := by
  refine Ct_of 2 rfl rfl rfl (fun X C => ?_)
  have s2 := hs.1.1.2
  have et := toP_i (K := K) (A := A) m2 m4
  by_cases hin : toP K A s < 0 ∨ 9 < toP K A s
  · have hnq : newQ K A s = 1 := by unfold newQ; rw [if_pos hq, if_pos hin]
    have hnp : newP K A s = aP A s := by unfold newP; rw [if_neg (fun h9 => by rw [hnq] at h9; exact absurd h9.2 (by decide))]
    have hir : inR (Int32.ofInt (toP K A s)) 10 = false := by
      unfold inR
      rw [toInt_ofInt (by unfold toP; omega) (by unfold toP; omega)]
      rcases hin with h9 | h9
      · rw [decide_eq_false (by omega)]; rfl
      · rw [decide_eq_false (show ¬ toP K A s < ((10 : Nat) : Int) by omega), Bool.and_false]
    refine V_go C tk_Night_sail [] 59 ?_
    refine ⟨_, ⟨_, by decide, (ct_Row_at (r := 25) (a := 57) (n := 3) (by decide) rfl (by omega) h)⟩, fun r5 h5 p5 => ?_⟩
    rw [m1] at p5
    obtain ⟨rfl, rfl⟩ := p5
    refine ⟨_, ⟨_, by decide, (ct_Row_at (r := 26) (a := 58) (n := 3) (by decide) rfl (by omega) h)⟩, fun r13 h13 p13 => ?_⟩
    rw [m3] at p13
    obtain ⟨rfl, rfl⟩ := p13
    refine ⟨_, ⟨_, by decide, (ct_GD_isPlace _ h)⟩, fun r19 h19 p19 => ?_⟩
    rw [et, hir] at p19
    obtain ⟨rfl, rfl⟩ := p19
    refine And.intro (fun c22 => ?_) (fun c22 => ?_)
    · exact absurd rfl c22
    · refine ⟨_, ⟨_, by decide, (ct_Row_put (r := 27) (a := 59) (n := 3) (by decide) rfl (by omega) 1 h)⟩, fun r31 h31 p31 => ?_⟩
      obtain ⟨rfl, rfl⟩ := p31
      refine ⟨rfl, ?_⟩
      rw [hnq, hnp]
      rw [up2_same (S := up2 h.1 59 s (nI 1)) (by rw [up2_a _ _ _ _ (by decide)]; exact m1)]
      rfl
  · obtain ⟨y, hy10, hy⟩ : ∃ y : Nat, y < 10 ∧ toP K A s = (y : Int) := ⟨(toP K A s).toNat, by omega, by omega⟩
    have hyt : (toP K A s).toNat = y := by omega
    have ey : nI (aP A s) + Int32.ofInt (kC K s) = nI y := by rw [et, hy]; exact ofInt_nat y
    have hnq : newQ K A s = if shine K A y = 0 then 2 else 0 := by unfold newQ; rw [if_pos hq, if_neg hin, hyt]
    have hir : inR (nI y) 10 = true := inR_nI hy10 (by decide)
    have hsl := shN_lt K y s2
    have hle : shN' K y &&& lnB K A ≤ shN' K y := Nat.and_le_left
    refine V_go C tk_Night_sail [] 59 ?_
    refine ⟨_, ⟨_, by decide, (ct_Row_at (r := 25) (a := 57) (n := 3) (by decide) rfl (by omega) h)⟩, fun r5 h5 p5 => ?_⟩
    rw [m1] at p5
    obtain ⟨rfl, rfl⟩ := p5
    refine ⟨_, ⟨_, by decide, (ct_Row_at (r := 26) (a := 58) (n := 3) (by decide) rfl (by omega) h)⟩, fun r13 h13 p13 => ?_⟩
    rw [m3] at p13
    obtain ⟨rfl, rfl⟩ := p13
    refine ⟨_, ⟨_, by decide, (ct_GD_isPlace _ h)⟩, fun r19 h19 p19 => ?_⟩
    rw [ey, hir] at p19
    obtain ⟨rfl, rfl⟩ := p19
    refine And.intro (fun c22 => ?_) (fun c22 => ?_)
    · refine ⟨_, ⟨_, by decide, (ct_Row_at (r := 12) (a := 44) (n := 10) (by decide) ey hy10 h)⟩, fun r45 h45 p45 => ?_⟩
      rw [hs.2 y hy10] at p45
      obtain ⟨rfl, rfl⟩ := p45
      refine And.intro (fun c50 => ?_) (fun c50 => ?_)
      · refine ⟨_, ⟨_, by decide, (ct_Row_put (r := 25) (a := 57) (n := 3) (by decide) rfl (by omega) _ h)⟩, fun r71 h71 p71 => ?_⟩
        obtain ⟨rfl, rfl⟩ := p71
        rw [fa_and, nI_eq0 (by omega), sh_0 K A y _ (fun k hk => lnB_bit K A k hk)] at c50
        rw [if_neg c50] at hnq
        have hnp : newP K A s = y := by unfold newP; rw [if_pos ⟨hq, hnq⟩, hyt]
        refine ⟨rfl, ?_⟩
        rw [hnq, hnp, up2_same (S := h.1) (i := 59) (by rw [m5, hq]), ey]
      · refine ⟨_, ⟨_, by decide, (ct_Row_put (r := 27) (a := 59) (n := 3) (by decide) rfl (by omega) 2 h)⟩, fun r59 h59 p59 => ?_⟩
        obtain ⟨rfl, rfl⟩ := p59
        rw [fa_and, nI_eq0 (by omega), sh_0 K A y _ (fun k hk => lnB_bit K A k hk)] at c50
        rw [if_pos c50] at hnq
        have hnp : newP K A s = aP A s := by unfold newP; rw [if_neg (fun h9 => by rw [hnq] at h9; exact absurd h9.2 (by decide))]
        refine ⟨rfl, ?_⟩
        rw [hnq, hnp]
        rw [up2_same (S := up2 h.1 59 s (nI 2)) (by rw [up2_a _ _ _ _ (by decide)]; exact m1)]
        rfl
    · exact absurd c22 (by decide)
def PB5 (a _b : Nat) : Prop := a = 57 ∨ a = 59
theorem CSt.n5 {K : KF} {h h' : Hp} (a : CSt K h) (f : Fr PN5 h h') : CSt K h' := by
  obtain ⟨⟨⟨a1, a2⟩, ⟨a3, a4⟩, ⟨a5, a6⟩, a7⟩, a8⟩ := a
  refine ⟨⟨⟨?_, a2⟩, ⟨?_, a4⟩, ⟨?_, a6⟩, fun k hk => ?_⟩, fun x hx => ?_⟩
  · rw [f.1 2 3 (by unfold PN5; omega)]; exact a1
  · rw [f.1 2 4 (by unfold PN5; omega)]; exact a3
  · rw [f.1 2 5 (by unfold PN5; omega)]; exact a5
  · rw [f.1 42 k (by unfold PN5; omega), f.1 43 k (by unfold PN5; omega)]; exact a7 k hk
  · rw [f.1 44 x (by unfold PN5; omega)]; exact a8 x hx
theorem ct_Night_passBreath_5 {K : KF} {A : AS} {q3 q4 : Nat → Int32} {F : Nat} {h : Hp} (hs : CSt K h) (hn : CN5 K A q3 q4 F h) : Ct 2 md_Night_passBreath [.ref 5] h (fun r h' => r = some (.int (nI (lostN K A))) ∧ CN5 K (stepA K A) q3 q4 F h' ∧ Fr PN5 h h') := by
  refine Ct_of 2 rfl rfl rfl (fun X C => ?_)
  obtain ⟨⟨s1, s2⟩, -⟩ := hs.1
  obtain ⟨⟨n1, n2⟩, n3, n4, ⟨n5, n6⟩, n7⟩ := id hn
  have loop2 : ∀ (n i : Nat) (b : Int32) (hh : Hp), i + n = kL K → b = nI i → GC 57 59 K A (kN K) hh → (∀ k, k < kL K → hh.1 60 k = nI (if k < i then aD A k - 1 else aD A k)) → (Fr (fun a _ => a = 57 ∨ a = 59 ∨ a = 60) h hh) → V X 57 [some (.ref 5), some (.int (nI (lnB K A))), some (.int (nI (lostN K A))), some (.int b)] [] hh := by
    intro n
    induction n with
    | zero =>
      intro i b hh hi hb hg hd hf
      subst hb
      obtain rfl : i = kL K := by omega
      have e1 : hh.1 2 3 = nI (kL K) := by rw [hf.1 2 3 (by omega)]; exact s1
      refine V_go C tk_Night_passBreath [9, 57] 78 ?_
      refine And.intro (fun c65 => ?_) (fun c65 => ?_)
      · refine ⟨rfl, ⟨⟨?_, n2⟩, fun s hsn => ?_, fun k hk => ?_, ⟨?_, n6⟩, ?_⟩, (hf.mono (Q := PN5) (fun a b h9 => by unfold PN5; omega)).up (by unfold PN5; omega)⟩
        · simp [up2]; rw [hf.1 5 7 (by omega)]; exact n1
        · obtain ⟨⟨m1, m2⟩, ⟨m3, m4⟩, m5, m6⟩ := n3 s hsn
          obtain ⟨g1, -⟩ := hg s hsn
          obtain ⟨g2, g3⟩ := g1 hsn
          simp [up2]
          exact ⟨⟨g2, newP_lt K A m2⟩, ⟨by rw [hf.1 58 s (by omega)]; exact m3, m4⟩, g3, newQ_le K A m6⟩
        · obtain ⟨⟨m1, m2⟩, m3, m4⟩ := n4 k hk
          have hdk := hd k hk
          rw [if_pos hk] at hdk
          simp [up2]
          exact ⟨⟨hdk, by show aD A k - 1 ≤ 9; omega⟩, by rw [hf.1 61 k (by omega)]; exact m3, by rw [hf.1 62 k (by omega)]; exact m4⟩
        · simp [up2]; rw [hf.1 5 8 (by omega)]; exact n5
        · simp [up2]; rw [hf.1 5 9 (by omega), n7]; rfl
      · exact absurd (nle e1) c65
    | succ n ih =>
      intro i b hh hi hb hg hd hf
      subst hb
      have e1 : hh.1 2 3 = nI (kL K) := by rw [hf.1 2 3 (by omega)]; exact s1
      have hdi := hd i (by omega)
      rw [if_neg (Nat.lt_irrefl i)] at hdi
      have d2 := (n4 i (by omega)).1.2
      have em : (if (0 : Int32) < nI (aD A i) - 1 then nI (aD A i) - 1 else 0) = nI (aD A i - 1) := by
        rcases Nat.eq_zero_or_pos (aD A i) with h9 | h9
        · rw [h9]; decide
        · rw [show nI (aD A i) - 1 = nI (aD A i - 1) from pk_sub (b := 1) h9]
          split
          · rfl
          · rename_i h8
            have : ¬ 0 < aD A i - 1 := fun h7 => h8 (nI_lt (a := 0) h7 (by omega))
            rw [show aD A i - 1 = 0 by omega]; rfl
      refine V_go C tk_Night_passBreath [9, 57] 78 ?_
      refine And.intro (fun c65 => ?_) (fun c65 => ?_)
      · exact absurd c65 (nge (by omega) (by omega) e1)
      · refine ⟨_, ⟨_, by decide, (ct_Row_at (r := 28) (a := 60) (n := 5) (by decide) rfl (by omega) hh)⟩, fun r79 h79 p79 => ?_⟩
        rw [hdi] at p79
        obtain ⟨rfl, rfl⟩ := p79
        refine ⟨_, ⟨_, by decide, (ct_Row_put (r := 28) (a := 60) (n := 5) (by decide) rfl (by omega) _ _)⟩, fun r87 h87 p87 => ?_⟩
        rw [em] at p87
        obtain ⟨rfl, rfl⟩ := p87
        refine ih (i + 1) _ _ (by omega) (nI_1 i) (fun s hsn => by simp [up2]; exact hg s hsn) (fun k hk => ?_) (hf.up (by omega))
        by_cases hki : k = i
        · subst hki; simp [up2]
        · simp [up2, hki]
          rw [hd k hk]
          by_cases h9 : k < i
          · rw [if_pos h9, if_pos (by omega)]
          · rw [if_neg h9, if_neg (by omega)]
  have loop1 : ∀ (n i : Nat) (m b : Int32) (hh : Hp), i + n = kN K → m = nI (cnt (fun s => decide (aQ A s = 0) && decide (newQ K A s = 2)) i) → b = nI i → GC 57 59 K A i hh → Fr PB5 h hh → V X 9 [some (.ref 5), some (.int (nI (lnB K A))), some (.int m), some (.int b)] [] hh := by
    intro n
    induction n with
    | zero =>
      intro i m b hh hi hm hb hg hf
      subst hb
      obtain rfl : i = kN K := by omega
      have e1 : hh.1 5 7 = nI (kN K) := by rw [hf.1 5 7 (by unfold PB5; omega)]; exact n1
      refine V_go C tk_Night_passBreath [9, 57] 78 ?_
      refine And.intro (fun c14 => ?_) (fun c14 => ?_)
      · rw [hm]
        refine loop2 (kL K) 0 _ _ (by omega) rfl hg (fun k hk => ?_) (hf.mono (fun a b h9 => by unfold PB5 at h9; omega))
        rw [if_neg (Nat.not_lt_zero k), hf.1 60 k (by unfold PB5; omega)]
        exact (n4 k hk).1.1
      · exact absurd (nle e1) c14
    | succ n ih =>
      intro i m b hh hi hm hb hg hf
      subst hb
      have hiN : i < kN K := by omega
      have e1 : hh.1 5 7 = nI (kN K) := by rw [hf.1 5 7 (by unfold PB5; omega)]; exact n1
      obtain ⟨⟨m1, m2⟩, ⟨m3, m4⟩, m5, m6⟩ := n3 i hiN
      obtain ⟨g1, g2⟩ := (hg i hiN).2 (Nat.le_refl i)
      have ec : cnt (fun s => decide (aQ A s = 0) && decide (newQ K A s = 2)) (i + 1) = cnt (fun s => decide (aQ A s = 0) && decide (newQ K A s = 2)) i + (bif decide (aQ A i = 0) && decide (newQ K A i = 2) then 1 else 0) := rfl
      have hs' : CSt K hh := hs.n5 (hf.mono (fun a b h9 => by unfold PB5 at h9; unfold PN5; omega))
      have m3' : hh.1 58 i = Int32.ofInt (kC K i) := by rw [hf.1 58 i (by unfold PB5; omega)]; exact m3
      have hnq := newQ_le K A m6
      by_cases hq : aQ A i = 0
      · rw [decide_eq_true hq, Bool.true_and] at ec
        have nx : Fr PB5 h (up2 (up2 hh.1 59 i (nI (newQ K A i))) 57 i (nI (newP K A i)), hh.2) := (hf.up (i := 59) (j := i) (x := nI (newQ K A i)) (by unfold PB5; omega)).up (by unfold PB5; omega)
        refine V_go C tk_Night_passBreath [9, 57] 78 ?_
        refine And.intro (fun c14 => ?_) (fun c14 => ?_)
        · exact absurd c14 (nge (by omega) (by omega) e1)
        · refine ⟨_, ⟨_, by decide, (ct_Row_at (r := 27) (a := 59) (n := 3) (by decide) rfl (by omega) hh)⟩, fun r22 h22 p22 => ?_⟩
          rw [g2, hq] at p22
          obtain ⟨rfl, rfl⟩ := p22
          refine And.intro (fun c25 => ?_) (fun c25 => ?_)
          · exact absurd rfl c25
          · refine ⟨_, ⟨_, by decide, (ct_Night_sail_5 (K := K) (A := A) hs' (by omega) g1 m2 m3' m4 g2 hq)⟩, fun r31 h31 p31 => ?_⟩
            obtain ⟨rfl, rfl⟩ := p31
            refine ⟨_, ⟨_, by decide, (ct_Row_at (r := 27) (a := 59) (n := 3) (by decide) rfl (by omega) _)⟩, fun r39 h39 p39 => ?_⟩
            obtain ⟨p39, rfl⟩ := p39
            have e39 : r39 = some (.int (nI (newQ K A i))) := by rw [p39]; simp [up2]
            clear p39
            subst e39
            refine And.intro (fun c43 => ?_) (fun c43 => ?_)
            · have c43' : ¬ newQ K A i = 2 := fun h9 => c43 (by rw [h9]; rfl)
              exact ih (i + 1) _ _ _ (by omega) (by rw [hm, ec, decide_eq_false c43']; rfl) (nI_1 i) (GC_step (by decide) hg rfl rfl) nx
            · have c43' : newQ K A i = 2 := nI_inj (by omega) (by decide) c43
              exact ih (i + 1) _ _ _ (by omega) (by rw [hm, ec, decide_eq_true c43']; exact nI_1 _) (nI_1 i) (GC_step (by decide) hg rfl rfl) nx
      · rw [decide_eq_false hq, Bool.false_and] at ec
        refine V_go C tk_Night_passBreath [9, 57] 78 ?_
        refine And.intro (fun c14 => ?_) (fun c14 => ?_)
        · exact absurd c14 (nge (by omega) (by omega) e1)
        · refine ⟨_, ⟨_, by decide, (ct_Row_at (r := 27) (a := 59) (n := 3) (by decide) rfl (by omega) hh)⟩, fun r22 h22 p22 => ?_⟩
          rw [g2] at p22
          obtain ⟨rfl, rfl⟩ := p22
          refine And.intro (fun c25 => ?_) (fun c25 => ?_)
          · exact ih (i + 1) _ _ _ (by omega) (by rw [hm, ec]; rfl) (nI_1 i) (GC_same hg hiN hq) hf
          · exact absurd ((nI_eq0 (by omega)).mp c25) hq
  refine V_go C tk_Night_passBreath [9, 57] 78 ?_
  refine ⟨_, ⟨_, by decide, (ct_Night_litNow_5 hs hn)⟩, fun r1 h1 p1 => ?_⟩
  obtain ⟨rfl, rfl⟩ := p1
  refine loop1 (kN K) 0 _ _ _ (by omega) rfl rfl (fun s hsn => ⟨fun h9 => absurd h9 (Nat.not_lt_zero s), fun _ => ?_⟩) Fr.rf
  obtain ⟨⟨m1, m2⟩, -, m5, m6⟩ := n3 s hsn
  exact ⟨m1, m5⟩
def an35 (q3 : Nat → Int32) (k : Nat) : Nat → Int32 := fun j => if j = k then q3 j + 1 else q3 j
def an45 (q4 : Nat → Int32) (k : Nat) (y : Bool) : Nat → Int32 := fun j => if j = k ∧ y = false then q4 j + 1 else q4 j
theorem ct_Night_answer_5 {K : KF} {A : AS} {q3 q4 : Nat → Int32} {F : Nat} {h : Hp} (hs : CSt K h) (hn : CN5 K A q3 q4 F h) {k f : Nat} (hk : k < kL K) (hf : f < 4) (t : Bool) (hd0 : aD A k = 0) : Ct 4 md_Night_answer [.ref 5, .int (nI k), .int (nI f), .int (tI t)] h (fun r h' => r = some (.int (tI (ansY K A F k f t))) ∧ CN5 K (ansA K A k (ansY K A F k f t)) (an35 q3 k) (an45 q4 k (ansY K A F k f t)) F h' ∧ Fr PN5 h h') := by
  refine Ct_of 2 rfl rfl rfl (fun X C => ?_)
  obtain ⟨⟨s1, s2⟩, -, ⟨s3, s4⟩, s5⟩ := hs.1
  obtain ⟨⟨k1, k2⟩, -⟩ := s5 k hk
  obtain ⟨⟨n1, n2⟩, n3, n4, ⟨n5, n6⟩, n7⟩ := id hn
  obtain ⟨⟨d1, d2⟩, d3, d4⟩ := n4 k hk
  have L53 : ∀ (y : Int32) (r4 : Int32) (r5 : Option Value), y = tI (ansY K A F k f t) → V X 53 [some (.ref 5), some (.int (nI k)), some (.int (nI f)), some (.int (tI t)), some (.int r4), r5] [.int y] h := by
    intro y r4 r5 hy
    subst hy
    refine V_go C tk_Night_answer [] 78 ?_
    refine ⟨_, ⟨_, by decide, (ct_Row_at (r := 29) (a := 61) (n := 5) (by decide) rfl (by omega) h)⟩, fun r65 h65 p65 => ?_⟩
    obtain ⟨rfl, rfl⟩ := p65
    refine ⟨_, ⟨_, by decide, (ct_Row_put (r := 29) (a := 61) (n := 5) (by decide) rfl (by omega) _ h)⟩, fun r70 h70 p70 => ?_⟩
    obtain ⟨rfl, rfl⟩ := p70
    refine And.intro (fun c75 => ?_) (fun c75 => ?_)
    · rw [tI_n] at c75
      refine ⟨tI_01 _, rfl, ⟨⟨?_, n2⟩, fun s hsn => ?_, fun j hj => ?_, ⟨?_, n6⟩, ?_⟩, Fr.rf.up (by unfold PN5; omega)⟩
      · simp [up2]; exact n1
      · have := n3 s hsn
        simp [up2]
        simpa [ansA, aP, aQ] using this
      · have := n4 j hj
        rw [c75]
        by_cases h9 : j = k
        · subst h9
          simp [up2, ansA, aD, an35, an45]
          rw [hd0] at d1
          exact ⟨d1, d3, d4⟩
        · simp [up2, ansA, aD, an35, an45, h9]
          simpa [aD] using this
      · simp [up2]; exact n5
      · simp [up2]; exact n7
    · refine ⟨_, ⟨_, by decide, (ct_Row_at (r := 30) (a := 62) (n := 5) (by decide) rfl (by omega) _)⟩, fun r88 h88 p88 => ?_⟩
      obtain ⟨rfl, rfl⟩ := p88
      refine ⟨_, ⟨_, by decide, (ct_Row_put (r := 30) (a := 62) (n := 5) (by decide) rfl (by omega) _ _)⟩, fun r93 h93 p93 => ?_⟩
      obtain ⟨rfl, rfl⟩ := p93
      refine ⟨_, ⟨_, by decide, (ct_Row_put (r := 28) (a := 60) (n := 5) (by decide) rfl (by omega) _ _)⟩, fun r108 h108 p108 => ?_⟩
      obtain ⟨rfl, rfl⟩ := p108
      rw [tI_0] at c75
      refine ⟨tI_01 _, rfl, ⟨⟨?_, n2⟩, fun s hsn => ?_, fun j hj => ?_, ⟨?_, n6⟩, ?_⟩, ((Fr.rf.up (by unfold PN5; omega)).up (by unfold PN5; omega)).up (by unfold PN5; omega)⟩
      · simp [up2]; exact n1
      · have := n3 s hsn
        simp [up2]
        simpa [ansA, aP, aQ] using this
      · have := n4 j hj
        rw [c75]
        by_cases h9 : j = k
        · subst h9
          simp [up2, ansA, aD, an35, an45]
          exact ⟨⟨s3, s4⟩, by rw [d3], by rw [d4]⟩
        · simp [up2, ansA, aD, an35, an45, h9]
          simpa [aD] using this
      · simp [up2]; exact n5
      · simp [up2]; exact n7
  refine V_go C tk_Night_answer [53] 78 ?_
  refine ⟨_, ⟨_, by decide, (ct_Row_at (r := 10) (a := 42) (n := 5) (by decide) rfl (by omega) h)⟩, fun r8 h8 p8 => ?_⟩
  rw [k1] at p8
  obtain ⟨rfl, rfl⟩ := p8
  refine ⟨_, ⟨_, by decide, (ct_GD_isTrueN n5 rfl n6 hf t h)⟩, fun r21 h21 p21 => ?_⟩
  obtain ⟨rfl, rfl⟩ := p21
  refine ⟨_, ⟨_, by decide, (ct_GD_saysYes _ _ _ h)⟩, fun r28 h28 p28 => ?_⟩
  rw [n7] at p28
  obtain ⟨rfl, rfl⟩ := p28
  refine And.intro (fun c31 => ?_) (fun c31 => ?_)
  · rw [tI_n] at c31
    exact L53 _ _ _ (by unfold ansY; rw [c31]; rfl)
  · refine And.intro (fun c37 => ?_) (fun c37 => ?_)
    · rw [tI_0] at c31
      have h2 : ¬ kK K k = 2 := fun h9 => c37 (by rw [h9]; rfl)
      exact L53 _ _ _ (by unfold ansY; rw [c31, decide_eq_false h2]; rfl)
    · refine ⟨_, ⟨_, by decide, (ct_Night_mayGoDark_5 hs hn hk)⟩, fun r42 h42 p42 => ?_⟩
      obtain ⟨rfl, rfl⟩ := p42
      refine And.intro (fun c45 => ?_) (fun c45 => ?_)
      · rw [tI_0] at c31
        rw [tI_n] at c45
        exact L53 _ _ _ (by unfold ansY; rw [c31, c45, Bool.not_true, Bool.and_false]; rfl)
      · rw [tI_0] at c31
        rw [tI_0] at c45
        have h2 : kK K k = 2 := nI_inj (by omega) (by decide) c37
        exact L53 _ _ _ (by unfold ansY; rw [c31, c45, decide_eq_true h2]; rfl)
