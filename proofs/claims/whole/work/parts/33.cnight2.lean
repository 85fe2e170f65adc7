/-! ===== the class: tonight alone, and copies of nights ===== -/
theorem Fr.zr {P : Nat → Nat → Prop} {h h1 : Hp} {b n : Nat} (f : Fr P h h1) (hp : ∀ y, y < n → P b y) : Fr P h (zrH h1 b n) := ⟨fun i j hn => by
  show (if i = b ∧ j < n then 0 else h1.1 i j) = _
  rw [if_neg (fun h9 => hn (by rw [h9.1]; exact hp j h9.2))]
  exact f.1 i j hn, f.2⟩
theorem zrH_in (h : Hp) (b n : Nat) {y : Nat} (hy : y < n) : (zrH h b n).1 b y = 0 := by
  show (if b = b ∧ y < n then (0 : Int32) else h.1 b y) = 0
  rw [if_pos ⟨rfl, hy⟩]
theorem zrH_out (h : Hp) (b n : Nat) {x y : Nat} (hx : x ≠ b) : (zrH h b n).1 x y = h.1 x y := by
  show (if x = b ∧ y < n then (0 : Int32) else h.1 x y) = _
  rw [if_neg (fun h9 => hx h9.1)]
theorem ct_Night_begin (h : Hp) : Ct 1 md_Night_begin [.ref 3] h (fun r h' => r = none ∧ (∀ K : KF, kN K = 0 → kL K ≤ 5 → CN3 K stA (fun _ => 0) (fun _ => 0) 0 h') ∧ Fr PN3 h h') := by
  refine Ct_of 2 rfl rfl rfl (fun X C => ?_)
  refine V_go C tk_Night_begin [] 39 ?_
  refine ⟨_, ⟨_, by decide, (ct_Row_clear (r := 16) (a := 48) (by decide) h)⟩, fun r4 h4 p4 => ?_⟩
  obtain ⟨rfl, rfl⟩ := p4
  refine ⟨_, ⟨_, by decide, (ct_Row_clear (r := 17) (a := 49) (by decide) _)⟩, fun r11 h11 p11 => ?_⟩
  obtain ⟨rfl, rfl⟩ := p11
  refine ⟨_, ⟨_, by decide, (ct_Row_clear (r := 18) (a := 50) (by decide) _)⟩, fun r18 h18 p18 => ?_⟩
  obtain ⟨rfl, rfl⟩ := p18
  refine ⟨rfl, fun K h0 h5 => ⟨⟨by simp [up2, h0]; rfl, by omega⟩, fun s hs => absurd hs (by omega), fun k hk => ?_, ⟨by simp [up2]; rfl, by decide⟩, by simp [up2]; rfl⟩, (((((Fr.rf.zr (fun y _ => by unfold PN3; omega)).zr (fun y _ => by unfold PN3; omega)).zr (fun y _ => by unfold PN3; omega)).up (by unfold PN3; omega)).up (by unfold PN3; omega)).up (by unfold PN3; omega)⟩
  have e1 : (zrH (zrH (zrH h 48 5) 49 5) 50 5).1 48 k = 0 := by rw [zrH_out _ _ _ (by decide), zrH_out _ _ _ (by decide), zrH_in _ _ _ (by omega)]
  have e2 : (zrH (zrH (zrH h 48 5) 49 5) 50 5).1 49 k = 0 := by rw [zrH_out _ _ _ (by decide), zrH_in _ _ _ (by omega)]
  have e3 : (zrH (zrH (zrH h 48 5) 49 5) 50 5).1 50 k = 0 := by rw [zrH_in _ _ _ (by omega)]
  simp [up2]
  exact ⟨⟨e1, Nat.zero_le 9⟩, e2, e3⟩
theorem ct_Night_launch {K : KF} {A : AS} {q3 q4 : Nat → Int32} {F : Nat} {h : Hp} (hn : CN3 K A q3 q4 F h) (h3 : kN K < 3) {x : Nat} (hx : x < 10) {c : Int} (hc : -1 ≤ c ∧ c ≤ 1) {K' : KF} {A' : AS} (hK : kN K' = kN K + 1 ∧ kL K' = kL K ∧ (∀ s, s < kN K → kC K' s = kC K s ∧ aP A' s = aP A s ∧ aQ A' s = aQ A s) ∧ (kC K' (kN K) = c ∧ aP A' (kN K) = x ∧ aQ A' (kN K) = 0) ∧ aD A' = aD A ∧ aB A' = aB A) : Ct 1 md_Night_launch [.ref 3, .int (nI x), .int (Int32.ofInt c)] h (fun r h' => r = some (.int (nI (kN K))) ∧ CN3 K' A' q3 q4 F h' ∧ Fr PN3 h h') := by
  refine Ct_of 2 rfl rfl rfl (fun X C => ?_)
  obtain ⟨⟨n1, n2⟩, n3, n4, ⟨n5, n6⟩, n7⟩ := id hn
  obtain ⟨k1, k2, k3, ⟨k4, k5, k6⟩, k7, k8⟩ := hK
  refine V_go C tk_Night_launch [] 46 ?_
  refine ⟨_, ⟨_, by decide, (ct_Row_put (r := 13) (a := 45) (n := 3) (by decide) n1 h3 _ h)⟩, fun r11 h11 p11 => ?_⟩
  obtain ⟨rfl, rfl⟩ := p11
  refine ⟨_, ⟨_, by decide, (ct_Row_put (r := 14) (a := 46) (n := 3) (by decide) n1 h3 _ _)⟩, fun r20 h20 p20 => ?_⟩
  obtain ⟨rfl, rfl⟩ := p20
  refine ⟨_, ⟨_, by decide, (ct_Row_put (r := 15) (a := 47) (n := 3) (by decide) n1 h3 _ _)⟩, fun r29 h29 p29 => ?_⟩
  obtain ⟨rfl, rfl⟩ := p29
  refine ⟨by rw [n1], ⟨⟨?_, by omega⟩, fun s hs => ?_, fun k hk => ?_, ⟨?_, n6⟩, ?_⟩, (((Fr.rf.up (by unfold PN3; omega)).up (by unfold PN3; omega)).up (by unfold PN3; omega)).up (by unfold PN3; omega)⟩
  · simp [up2]; rw [n1, k1]; exact nI_1 _
  · by_cases h9 : s = kN K
    · subst h9
      simp [up2]
      rw [k4, k5, k6]
      exact ⟨⟨rfl, hx⟩, ⟨rfl, hc⟩, rfl, by decide⟩
    · obtain ⟨j1, j2, j3⟩ := k3 s (by omega)
      have := n3 s (by omega)
      simp [up2, h9]
      rw [j1, j2, j3]
      exact this
  · have := n4 k (by rw [← k2]; exact hk)
    simp [up2]
    rw [k7]
    exact this
  · simp [up2]; exact n5
  · simp [up2]; rw [k8]; exact n7
theorem ct_Night_shipsThatAre {K : KF} {A : AS} {q3 q4 : Nat → Int32} {F : Nat} {h : Hp} (hn : CN3 K A q3 q4 F h) {w : Nat} {z : Int32} (hz : z = nI w) (hw : w < 1000) : Ct 1 md_Night_shipsThatAre [.ref 3, .int z] h (ex (.int (nI (cnt (fun s => decide (aQ A s = w)) (kN K)))) h) := by
  subst hz
  refine Ct_of 2 rfl rfl rfl (fun X C => ?_)
  obtain ⟨⟨n1, n2⟩, n3, -, -, -⟩ := id hn
  have loop : ∀ (n i : Nat) (m b : Int32), i + n = kN K → m = nI (cnt (fun s => decide (aQ A s = w)) i) → b = nI i → V X 4 [some (.ref 3), some (.int (nI w)), some (.int m), some (.int b)] [] h := by
    intro n
    induction n with
    | zero =>
      intro i m b hi hm hb
      subst hb
      obtain rfl : i = kN K := by omega
      refine V_go C tk_Night_shipsThatAre [4] 39 ?_
      refine And.intro (fun c9 => ?_) (fun c9 => ?_)
      · exact ⟨by rw [hm], rfl⟩
      · exact absurd (nle n1) c9
    | succ n ih =>
      intro i m b hi hm hb
      subst hb
      obtain ⟨-, -, m5, m6⟩ := n3 i (by omega)
      have ec : cnt (fun s => decide (aQ A s = w)) (i + 1) = cnt (fun s => decide (aQ A s = w)) i + (bif decide (aQ A i = w) then 1 else 0) := rfl
      refine V_go C tk_Night_shipsThatAre [4] 39 ?_
      refine And.intro (fun c9 => ?_) (fun c9 => ?_)
      · exact absurd c9 (nge (by omega) (by omega) n1)
      · refine ⟨_, ⟨_, by decide, (ct_Row_at (r := 15) (a := 47) (n := 3) (by decide) rfl (by omega) h)⟩, fun r17 h17 p17 => ?_⟩
        rw [m5] at p17
        obtain ⟨rfl, rfl⟩ := p17
        refine And.intro (fun c21 => ?_) (fun c21 => ?_)
        · exact ih (i + 1) _ _ (by omega) (by rw [hm, ec, decide_eq_false (fun h9 => c21 (by rw [h9]))]; rfl) (nI_1 i)
        · exact ih (i + 1) _ _ (by omega) (by rw [hm, ec, decide_eq_true (nI_inj (by omega) (by omega) c21)]; exact nI_1 _) (nI_1 i)
  refine V_go C tk_Night_shipsThatAre [4] 39 ?_
  exact loop (kN K) 0 _ _ (by omega) rfl rfl
theorem ct_Night_greatestAtOnce {K : KF} {A : AS} {q3 q4 : Nat → Int32} {F : Nat} {h : Hp} (hs : CSt K h) (hn : CN3 K A q3 q4 F h) : Ct 3 md_Night_greatestAtOnce [.ref 3] h (ex (.int (nI (osF K A 31))) h) := by
  refine Ct_of 2 rfl rfl rfl (fun X C => ?_)
  have hL5 := hs.1.1.2
  have l0 := lostBy_le K A 0 hs.1.2.2.1.2 hn.1.2
  have hml := lnB_lt K A hL5
  have loop : ∀ (n i : Nat) (x y : Int32) (r5 : Option Value), i + n = 31 → x = nI (osF K A i) → y = nI (i + 1) → V X 16 [some (.ref 3), some (.int (nI (lnB K A))), some (.int (nI (lostBy K A 0))), some (.int x), some (.int y), r5] [] h := by
    intro n
    induction n with
    | zero =>
      intro i x y r5 hi hx hy
      subst hy
      obtain rfl : i = 31 := by omega
      refine V_go C tk_Night_greatestAtOnce [16] 62 ?_
      refine And.intro (fun c20 => ?_) (fun c20 => ?_)
      · exact ⟨by rw [hx], rfl⟩
      · exact absurd (by decide) c20
    | succ n ih =>
      intro i x y r5 hi hx hy
      subst hx
      subst hy
      have ol := osF_le K A i
      have ean := and_not (b := i + 1) (y := lnB K A) (by omega) (by omega)
      have e0 : nI ((i + 1) &&& (65535 ^^^ lnB K A)) = 0 ↔ (i + 1) &&& (65535 ^^^ lnB K A) = 0 := nI_eq0 (by have : (i + 1) &&& (65535 ^^^ lnB K A) ≤ i + 1 := Nat.and_le_left; omega)
      have p1 := pc16_le (i + 1)
      have p2 := pc16_le (osF K A i)
      have l1 := lostBy_le K A (i + 1) hs.1.2.2.1.2 hn.1.2
      have eo : osF K A (i + 1) = if sub (i + 1) (lnB K A) && decide (pc16 (osF K A i) < pc16 (i + 1)) && decide (lostBy K A (i + 1) ≤ lostBy K A 0) then i + 1 else osF K A i := rfl
      have L40 : ∀ (t : Int32) (r5 : Option Value), t = tI (decide (pc16 (osF K A i) < pc16 (i + 1))) → V X 40 [some (.ref 3), some (.int (nI (lnB K A))), some (.int (nI (lostBy K A 0))), some (.int (nI (osF K A i))), some (.int (nI (i + 1))), r5] [.int t] h := by
        intro t r5 ht
        subst ht
        refine V_go C tk_Night_greatestAtOnce [16] 62 ?_
        refine And.intro (fun c48 => ?_) (fun c48 => ?_)
        · rw [ean, e0] at c48
          exact ih (i + 1) _ _ _ (by omega) (by rw [eo, show sub (i + 1) (lnB K A) = false from decide_eq_false c48]; rfl) (nI_1 (i + 1))
        · refine And.intro (fun c53 => ?_) (fun c53 => ?_)
          · rw [tI_0] at c53
            exact ih (i + 1) _ _ _ (by omega) (by rw [eo, c53, Bool.and_false]; rfl) (nI_1 (i + 1))
          · refine ⟨_, ⟨_, by decide, (ct_Night_lostBy_3 hs hn (set := i + 1) rfl (by omega))⟩, fun r59 h59 p59 => ?_⟩
            obtain ⟨rfl, rfl⟩ := p59
            refine And.intro (fun c63 => ?_) (fun c63 => ?_)
            · rw [nI_lt' (by omega) (by omega)] at c63
              exact ih (i + 1) _ _ _ (by omega) (by rw [eo, decide_eq_false (p := lostBy K A (i + 1) ≤ _) (by omega), Bool.and_false]; rfl) (nI_1 (i + 1))
            · rw [ean, e0] at c48
              rw [tI_n] at c53
              rw [nI_lt' (by omega) (by omega)] at c63
              exact ih (i + 1) _ _ _ (by omega) (by rw [eo, show sub (i + 1) (lnB K A) = true from decide_eq_true c48, c53, decide_eq_true (p := lostBy K A (i + 1) ≤ _) (by omega)]; rfl) (nI_1 (i + 1))
      refine V_go C tk_Night_greatestAtOnce [16, 40] 62 ?_
      refine And.intro (fun c20 => ?_) (fun c20 => ?_)
      · exact absurd c20 (nI_ge (b := 32) (by omega) (by decide))
      · refine ⟨_, ⟨_, by decide, (ct_Integer_bitCount (b := i + 1) rfl (by omega) h)⟩, fun r25 h25 p25 => ?_⟩
        obtain ⟨rfl, rfl⟩ := p25
        refine ⟨_, ⟨_, by decide, (ct_Integer_bitCount (b := osF K A i) rfl (by omega) h)⟩, fun r29 h29 p29 => ?_⟩
        obtain ⟨rfl, rfl⟩ := p29
        refine And.intro (fun c32 => ?_) (fun c32 => ?_)
        · have c32' : ¬ pc16 (osF K A i) < pc16 (i + 1) := fun h9 => absurd c32 (nI_ge h9 (by omega))
          exact L40 _ _ (by rw [decide_eq_false c32']; rfl)
        · have c32' : pc16 (osF K A i) < pc16 (i + 1) := (nI_lt' (by omega) (by omega)).mp (ne_le c32)
          exact L40 _ _ (by rw [decide_eq_true c32']; rfl)
  refine V_go C tk_Night_greatestAtOnce [16] 62 ?_
  refine ⟨_, ⟨_, by decide, (ct_Night_litNow_3 hs hn)⟩, fun r1 h1 p1 => ?_⟩
  obtain ⟨rfl, rfl⟩ := p1
  refine ⟨_, ⟨_, by decide, (ct_Night_lostBy_3 hs hn (set := 0) rfl (by decide))⟩, fun r7 h7 p7 => ?_⟩
  obtain ⟨rfl, rfl⟩ := p7
  exact loop 31 0 _ _ _ (by omega) rfl rfl
theorem ct_Night_copyFrom_34 {K : KF} {A : AS} {q3 q4 : Nat → Int32} {F : Nat} {h : Hp} (hL : kL K ≤ 5) (hn : CN4 K A q3 q4 F h) : Ct 2 md_Night_copyFrom [.ref 3, .ref 4] h (fun r h' => r = none ∧ CN3 K A q3 q4 F h' ∧ Fr PN3 h h') := by
  refine Ct_of 2 rfl rfl rfl (fun X C => ?_)
  obtain ⟨⟨n1, n2⟩, n3, n4, ⟨n5, n6⟩, n7⟩ := id hn
  refine V_go C tk_Night_copyFrom [] 63 ?_
  refine ⟨_, ⟨_, by decide, (ct_Row_copyFrom (r := 13) (s := 19) (a := 45) (b := 51) (n := 3) (by decide) _)⟩, fun r8 h8 p8 => ?_⟩
  obtain ⟨rfl, rfl⟩ := p8
  refine ⟨_, ⟨_, by decide, (ct_Row_copyFrom (r := 14) (s := 20) (a := 46) (b := 52) (n := 3) (by decide) _)⟩, fun r19 h19 p19 => ?_⟩
  obtain ⟨rfl, rfl⟩ := p19
  refine ⟨_, ⟨_, by decide, (ct_Row_copyFrom (r := 15) (s := 21) (a := 47) (b := 53) (n := 3) (by decide) _)⟩, fun r30 h30 p30 => ?_⟩
  obtain ⟨rfl, rfl⟩ := p30
  refine ⟨_, ⟨_, by decide, (ct_Row_copyFrom (r := 16) (s := 22) (a := 48) (b := 54) (n := 5) (by decide) _)⟩, fun r41 h41 p41 => ?_⟩
  obtain ⟨rfl, rfl⟩ := p41
  refine ⟨_, ⟨_, by decide, (ct_Row_copyFrom (r := 17) (s := 23) (a := 49) (b := 55) (n := 5) (by decide) _)⟩, fun r52 h52 p52 => ?_⟩
  obtain ⟨rfl, rfl⟩ := p52
  refine ⟨_, ⟨_, by decide, (ct_Row_copyFrom (r := 18) (s := 24) (a := 50) (b := 56) (n := 5) (by decide) _)⟩, fun r63 h63 p63 => ?_⟩
  obtain ⟨rfl, rfl⟩ := p63
  refine ⟨rfl, ⟨⟨?_, n2⟩, fun s hs => ?_, fun k hk => ?_, ⟨?_, n6⟩, ?_⟩, (((((((((Fr.rf.cp (fun y _ => by unfold PN3; omega)).cp (fun y _ => by unfold PN3; omega)).cp (fun y _ => by unfold PN3; omega)).cp (fun y _ => by unfold PN3; omega)).cp (fun y _ => by unfold PN3; omega)).cp (fun y _ => by unfold PN3; omega)).up (by unfold PN3; omega)).up (by unfold PN3; omega)).up (by unfold PN3; omega))⟩
  · simp [up2, cpH]; exact n1
  · have := n3 s hs
    have hs3 : s < 3 := by omega
    simp [up2, cpH, hs3]
    exact this
  · have := n4 k hk
    have hk5 : k < 5 := by omega
    simp [up2, cpH, hk5]
    exact this
  · simp [up2, cpH]; exact n5
  · simp [up2, cpH]; exact n7
theorem ct_Night_copyFrom_43 {K : KF} {A : AS} {q3 q4 : Nat → Int32} {F : Nat} {h : Hp} (hL : kL K ≤ 5) (hn : CN3 K A q3 q4 F h) : Ct 2 md_Night_copyFrom [.ref 4, .ref 3] h (fun r h' => r = none ∧ CN4 K A q3 q4 F h' ∧ Fr PN4 h h') := by
  refine Ct_of 2 rfl rfl rfl (fun X C => ?_)
  obtain ⟨⟨n1, n2⟩, n3, n4, ⟨n5, n6⟩, n7⟩ := id hn
  refine V_go C tk_Night_copyFrom [] 63 ?_
  refine ⟨_, ⟨_, by decide, (ct_Row_copyFrom (r := 19) (s := 13) (a := 51) (b := 45) (n := 3) (by decide) _)⟩, fun r8 h8 p8 => ?_⟩
  obtain ⟨rfl, rfl⟩ := p8
  refine ⟨_, ⟨_, by decide, (ct_Row_copyFrom (r := 20) (s := 14) (a := 52) (b := 46) (n := 3) (by decide) _)⟩, fun r19 h19 p19 => ?_⟩
  obtain ⟨rfl, rfl⟩ := p19
  refine ⟨_, ⟨_, by decide, (ct_Row_copyFrom (r := 21) (s := 15) (a := 53) (b := 47) (n := 3) (by decide) _)⟩, fun r30 h30 p30 => ?_⟩
  obtain ⟨rfl, rfl⟩ := p30
  refine ⟨_, ⟨_, by decide, (ct_Row_copyFrom (r := 22) (s := 16) (a := 54) (b := 48) (n := 5) (by decide) _)⟩, fun r41 h41 p41 => ?_⟩
  obtain ⟨rfl, rfl⟩ := p41
  refine ⟨_, ⟨_, by decide, (ct_Row_copyFrom (r := 23) (s := 17) (a := 55) (b := 49) (n := 5) (by decide) _)⟩, fun r52 h52 p52 => ?_⟩
  obtain ⟨rfl, rfl⟩ := p52
  refine ⟨_, ⟨_, by decide, (ct_Row_copyFrom (r := 24) (s := 18) (a := 56) (b := 50) (n := 5) (by decide) _)⟩, fun r63 h63 p63 => ?_⟩
  obtain ⟨rfl, rfl⟩ := p63
  refine ⟨rfl, ⟨⟨?_, n2⟩, fun s hs => ?_, fun k hk => ?_, ⟨?_, n6⟩, ?_⟩, (((((((((Fr.rf.cp (fun y _ => by unfold PN4; omega)).cp (fun y _ => by unfold PN4; omega)).cp (fun y _ => by unfold PN4; omega)).cp (fun y _ => by unfold PN4; omega)).cp (fun y _ => by unfold PN4; omega)).cp (fun y _ => by unfold PN4; omega)).up (by unfold PN4; omega)).up (by unfold PN4; omega)).up (by unfold PN4; omega))⟩
  · simp [up2, cpH]; exact n1
  · have := n3 s hs
    have hs3 : s < 3 := by omega
    simp [up2, cpH, hs3]
    exact this
  · have := n4 k hk
    have hk5 : k < 5 := by omega
    simp [up2, cpH, hk5]
    exact this
  · simp [up2, cpH]; exact n5
  · simp [up2, cpH]; exact n7
theorem ct_Night_copyFrom_53 {K : KF} {A : AS} {q3 q4 : Nat → Int32} {F : Nat} {h : Hp} (hL : kL K ≤ 5) (hn : CN3 K A q3 q4 F h) : Ct 2 md_Night_copyFrom [.ref 5, .ref 3] h (fun r h' => r = none ∧ CN5 K A q3 q4 F h' ∧ Fr PN5 h h') := by
  refine Ct_of 2 rfl rfl rfl (fun X C => ?_)
  obtain ⟨⟨n1, n2⟩, n3, n4, ⟨n5, n6⟩, n7⟩ := id hn
  refine V_go C tk_Night_copyFrom [] 63 ?_
  refine ⟨_, ⟨_, by decide, (ct_Row_copyFrom (r := 25) (s := 13) (a := 57) (b := 45) (n := 3) (by decide) _)⟩, fun r8 h8 p8 => ?_⟩
  obtain ⟨rfl, rfl⟩ := p8
  refine ⟨_, ⟨_, by decide, (ct_Row_copyFrom (r := 26) (s := 14) (a := 58) (b := 46) (n := 3) (by decide) _)⟩, fun r19 h19 p19 => ?_⟩
  obtain ⟨rfl, rfl⟩ := p19
  refine ⟨_, ⟨_, by decide, (ct_Row_copyFrom (r := 27) (s := 15) (a := 59) (b := 47) (n := 3) (by decide) _)⟩, fun r30 h30 p30 => ?_⟩
  obtain ⟨rfl, rfl⟩ := p30
  refine ⟨_, ⟨_, by decide, (ct_Row_copyFrom (r := 28) (s := 16) (a := 60) (b := 48) (n := 5) (by decide) _)⟩, fun r41 h41 p41 => ?_⟩
  obtain ⟨rfl, rfl⟩ := p41
  refine ⟨_, ⟨_, by decide, (ct_Row_copyFrom (r := 29) (s := 17) (a := 61) (b := 49) (n := 5) (by decide) _)⟩, fun r52 h52 p52 => ?_⟩
  obtain ⟨rfl, rfl⟩ := p52
  refine ⟨_, ⟨_, by decide, (ct_Row_copyFrom (r := 30) (s := 18) (a := 62) (b := 50) (n := 5) (by decide) _)⟩, fun r63 h63 p63 => ?_⟩
  obtain ⟨rfl, rfl⟩ := p63
  refine ⟨rfl, ⟨⟨?_, n2⟩, fun s hs => ?_, fun k hk => ?_, ⟨?_, n6⟩, ?_⟩, (((((((((Fr.rf.cp (fun y _ => by unfold PN5; omega)).cp (fun y _ => by unfold PN5; omega)).cp (fun y _ => by unfold PN5; omega)).cp (fun y _ => by unfold PN5; omega)).cp (fun y _ => by unfold PN5; omega)).cp (fun y _ => by unfold PN5; omega)).up (by unfold PN5; omega)).up (by unfold PN5; omega)).up (by unfold PN5; omega))⟩
  · simp [up2, cpH]; exact n1
  · have := n3 s hs
    have hs3 : s < 3 := by omega
    simp [up2, cpH, hs3]
    exact this
  · have := n4 k hk
    have hk5 : k < 5 := by omega
    simp [up2, cpH, hk5]
    exact this
  · simp [up2, cpH]; exact n5
  · simp [up2, cpH]; exact n7
