/-! ===== the class: next, nights, digest ===== -/
theorem ct_GD_leftAtWorst {K : KF} {A : AS} {q3 q4 : Nat → Int32} {F : Nat} {h : Hp} (hs : CSt K h) (hn : CN3 K A q3 q4 F h) {c b : Nat} (hc : c < 8 * kL K) (hb : b < 65536) : Ct 1 md_GD_leftAtWorst [.ref 0, .int (nI c), .int (nI b)] h (ex (.int (nI (wstM K (aB A) b c))) h) := by
  refine Ct_of 6 rfl rfl rfl (fun X C => ?_)
  have hL5 := hs.1.1.2
  have hc8 : c / 8 < kL K := by omega
  have k8 : nI c / 8 = nI (c / 8) := pk_div (d := 8) (by omega) (by decide) (by decide)
  have k2 : nI c / 2 = nI (c / 2) := pk_div (d := 2) (by omega) (by decide) (by decide)
  have kf : nI (c / 2) - nI (c / 2) / 4 * 4 = nI (c / 2 % 4) := pk_rem (d := 4) (by omega) (by decide) (by decide)
  have kt : nI c - nI c / 2 * 2 = nI (c % 2) := pk_rem (d := 2) (by omega) (by decide) (by decide)
  obtain ⟨⟨k1, -⟩, -⟩ := hs.1.2.2.2 (c / 8) hc8
  have hbr := hn.2.2.2.2
  have e1 : pc16 (b &&& msk (qS K (aB A) c) 16) = cnt (fun w => b.testBit w && qS K (aB A) c w) 16 := cnt_congr (fun w hw => by rw [Nat.testBit_and, msk_bit, decide_eq_true hw, Bool.true_and])
  have e2 : pc16 (b &&& (65535 ^^^ msk (qS K (aB A) c) 16)) = cnt (fun w => b.testBit w && !(qS K (aB A) c w)) 16 := cnt_congr (fun w hw => by rw [Nat.testBit_and, Nat.testBit_xor, show (65535 : Nat) = 2 ^ 16 - 1 from rfl, Nat.testBit_two_pow_sub_one, msk_bit, decide_eq_true hw, Bool.true_and, Bool.true_xor])
  have loop : ∀ (n w : Nat) (y o x : Int32), w + n = 16 → y = nI (cnt (fun w => b.testBit w && qS K (aB A) c w) w) → o = nI (cnt (fun w => b.testBit w && !(qS K (aB A) c w)) w) → x = nI w → V X 45 [some (.ref 0), some (.int (nI c)), some (.int (nI b)), some (.int (nI (kK K (c / 8)))), some (.int (nI (c / 2 % 4))), some (.int (tI (decide (c % 2 = 1)))), some (.int y), some (.int o), some (.int x)] [] h := by
    intro n
    induction n with
    | zero =>
      intro w y o x hw hy ho hx
      subst hx
      obtain rfl : w = 16 := by omega
      have l1 := cnt_le (fun w => b.testBit w && qS K (aB A) c w) 16
      have l2 := cnt_le (fun w => b.testBit w && !(qS K (aB A) c w)) 16
      refine V_go C tk_GD_leftAtWorst [45] 78 ?_
      refine And.intro (fun c49 => ?_) (fun c49 => ?_)
      · refine ⟨?_, rfl⟩
        unfold wstM
        rw [e1, e2, hy, ho]
        by_cases h9 : cnt (fun w => b.testBit w && qS K (aB A) c w) 16 < cnt (fun w => b.testBit w && !(qS K (aB A) c w)) 16
        · rw [if_pos ((nI_lt' (by omega) (by omega)).mpr h9), if_pos (by omega)]
        · rw [if_neg (fun h8 => h9 ((nI_lt' (by omega) (by omega)).mp h8))]
          by_cases h7 : cnt (fun w => b.testBit w && qS K (aB A) c w) 16 ≤ cnt (fun w => b.testBit w && !(qS K (aB A) c w)) 16
          · rw [if_pos h7, show cnt (fun w => b.testBit w && qS K (aB A) c w) 16 = cnt (fun w => b.testBit w && !(qS K (aB A) c w)) 16 by omega]
          · rw [if_neg h7]
      · exact absurd (by decide) c49
    | succ n ih =>
      intro w y o x hw hy ho hx
      subst hx
      have ey : cnt (fun w => b.testBit w && qS K (aB A) c w) (w + 1) = cnt (fun w => b.testBit w && qS K (aB A) c w) w + (bif b.testBit w && qS K (aB A) c w then 1 else 0) := rfl
      have eo : cnt (fun w => b.testBit w && !(qS K (aB A) c w)) (w + 1) = cnt (fun w => b.testBit w && !(qS K (aB A) c w)) w + (bif b.testBit w && !(qS K (aB A) c w) then 1 else 0) := rfl
      refine V_go C tk_GD_leftAtWorst [45] 78 ?_
      refine And.intro (fun c49 => ?_) (fun c49 => ?_)
      · exact absurd c49 (nI_ge (b := 16) (by omega) (by decide))
      · refine And.intro (fun c59 => ?_) (fun c59 => ?_)
        · rw [bitAt1 hb (by omega)] at c59
          have c59' := eq_false_of_ne_true c59
          exact ih (w + 1) _ _ _ (by omega) (by rw [hy, ey, c59']; rfl) (by rw [ho, eo, c59']; rfl) (nI_1 w)
        · refine ⟨_, ⟨_, by decide, (ct_GD_isTrueN rfl rfl (by omega) (by omega) _ h)⟩, fun r69 h69 p69 => ?_⟩
          obtain ⟨rfl, rfl⟩ := p69
          refine ⟨_, ⟨_, by decide, (ct_GD_saysYes _ _ _ h)⟩, fun r79 h79 p79 => ?_⟩
          rw [hbr] at p79
          obtain ⟨rfl, rfl⟩ := p79
          refine And.intro (fun c82 => ?_) (fun c82 => ?_)
          · rw [bitAt1 hb (by omega)] at c59
            rw [tI_0] at c82
            have hq : qS K (aB A) c w = false := c82
            exact ih (w + 1) _ _ _ (by omega) (by rw [hy, ey, c59, hq]; rfl) (by rw [ho, eo, c59, hq]; exact nI_1 _) (nI_1 w)
          · rw [bitAt1 hb (by omega)] at c59
            rw [tI_n] at c82
            have hq : qS K (aB A) c w = true := c82
            exact ih (w + 1) _ _ _ (by omega) (by rw [hy, ey, c59, hq]; exact nI_1 _) (by rw [ho, eo, c59, hq]; rfl) (nI_1 w)
  have L34 : ∀ (t : Int32) (r5 r6 r7 r8 : Option Value), t = tI (decide (c % 2 = 1)) → V X 34 [some (.ref 0), some (.int (nI c)), some (.int (nI b)), some (.int (nI (kK K (c / 8)))), some (.int (nI (c / 2 % 4))), r5, r6, r7, r8] [.int t] h := by
    intro t r5 r6 r7 r8 ht
    subst ht
    refine V_go C tk_GD_leftAtWorst [45] 78 ?_
    exact loop 16 0 _ _ _ (by omega) rfl rfl rfl
  refine V_go C tk_GD_leftAtWorst [34, 45] 78 ?_
  refine And.intro (by decide) ?_
  refine ⟨_, ⟨_, by decide, (ct_Row_at (r := 10) (a := 42) (n := 5) (by decide) k8 (by omega) h)⟩, fun r11 h11 p11 => ?_⟩
  rw [k1] at p11
  obtain ⟨rfl, rfl⟩ := p11
  refine And.intro (by decide) ?_
  refine And.intro (by decide) ?_
  refine And.intro (by decide) ?_
  refine And.intro (fun c26 => ?_) (fun c26 => ?_)
  · rw [kt] at c26
    rw [k2, kf]
    exact L34 _ _ _ _ _ (by rw [decide_eq_false (fun h9 => c26 (by rw [h9]; rfl))]; rfl)
  · rw [kt] at c26
    rw [k2, kf]
    exact L34 _ _ _ _ _ (by rw [decide_eq_true (nI_inj (by omega) (by decide) c26)]; rfl)
theorem nxS_big {K : KF} {A : AS} {b c : Nat} : nxS K A b (min c (8 * kL K)) = nxS K A b (min c (8 * kL K)) := rfl
theorem ct_GD_next {K : KF} {A : AS} {q3 q4 : Nat → Int32} {F : Nat} {H : HD} {h : Hp} (hs : CSt K h) (hn : CN3 K A q3 q4 F h) (hr : CH6 H h) (hlt : ∀ i, i < dM H → dL H i < kL K) : Ct 5 md_GD_next [.ref 0] h (ex (.int (nextV K A H)) h) := by
  refine Ct_of 6 rfl rfl rfl (fun X C => ?_)
  have hL5 := hs.1.1.2
  have hb := wBits_lt K H (-1) 0
  have e0 := nI_eq0 (a := wBits K H (-1) 0) (by omega)
  have hln := lnB_lt K A hL5
  have loop : ∀ (n c : Nat) (x y z : Int32) (r5 : Option Value), c + n = 40 → x = (nxS K A (wBits K H (-1) 0) (min c (8 * kL K))).1 → y = nI (nxS K A (wBits K H (-1) 0) (min c (8 * kL K))).2 → z = nI c → ¬ kL K = 0 → ¬ wBits K H (-1) 0 = 0 → V X 35 [some (.ref 0), some (.int (nI (wBits K H (-1) 0))), some (.int x), some (.int y), some (.int z), r5] [] h := by
    intro n
    induction n with
    | zero =>
      intro c x y z r5 hi hx hy hz hl hb0
      subst hz
      obtain rfl : c = 40 := by omega
      refine V_go C tk_GD_next [35] 70 ?_
      refine And.intro (fun c39 => ?_) (fun c39 => ?_)
      · exact ⟨by unfold nextV nxV; rw [if_neg hl, if_neg hb0, hx, show min 40 (8 * kL K) = 8 * kL K by omega], rfl⟩
      · exact absurd (by decide) c39
    | succ n ih =>
      intro c x y z r5 hi hx hy hz hl hb0
      subst hz
      have k8 : nI c / 8 = nI (c / 8) := pk_div (d := 8) (by omega) (by decide) (by decide)
      have ebit : (lnB K A).testBit (c / 8) = (decide (c / 8 < kL K) && litA A (c / 8)) := by unfold lnB; rw [msk_bit]
      have hbt := bitAt1 (m := lnB K A) (k := c / 8) (by omega) (by omega)
      by_cases hc : c < 8 * kL K
      · have em : min c (8 * kL K) = c := by omega
        have em1 : min (c + 1) (8 * kL K) = c + 1 := by omega
        rw [em] at hx hy
        rw [decide_eq_true (show c / 8 < kL K by omega), Bool.true_and] at ebit
        rw [ebit] at hbt
        have nl := nxS_le K A (wBits K H (-1) 0) c
        have wl := wstM_le K (aB A) (wBits K H (-1) 0) c
        have e1 : nxS K A (wBits K H (-1) 0) (c + 1) = if aD A (c / 8) = 0 ∧ wstM K (aB A) (wBits K H (-1) 0) c < (nxS K A (wBits K H (-1) 0) c).2 then (nI c, wstM K (aB A) (wBits K H (-1) 0) c) else nxS K A (wBits K H (-1) 0) c := rfl
        refine V_go C tk_GD_next [35] 70 ?_
        refine And.intro (fun c39 => ?_) (fun c39 => ?_)
        · exact absurd c39 (nI_ge (b := 40) (by omega) (by decide))
        · refine ⟨_, ⟨_, by decide, (ct_Night_litNow_3 hs hn)⟩, fun r46 h46 p46 => ?_⟩
          obtain ⟨rfl, rfl⟩ := p46
          refine And.intro (by decide) ?_
          refine And.intro (fun c58 => ?_) (fun c58 => ?_)
          · rw [k8, hbt] at c58
            have hd : ¬ aD A (c / 8) = 0 := fun h9 => c58 (decide_eq_true h9)
            exact ih (c + 1) _ _ _ _ (by omega) (by rw [em1, e1, if_neg (fun h9 => hd h9.1), hx]) (by rw [em1, e1, if_neg (fun h9 => hd h9.1), hy]) (nI_1 c) hl hb0
          · refine ⟨_, ⟨_, by decide, (ct_GD_leftAtWorst hs hn hc hb)⟩, fun r65 h65 p65 => ?_⟩
            obtain ⟨rfl, rfl⟩ := p65
            refine And.intro (fun c73 => ?_) (fun c73 => ?_)
            · rw [hy] at c73
              have hw : ¬ wstM K (aB A) (wBits K H (-1) 0) c < (nxS K A (wBits K H (-1) 0) c).2 := fun h9 => absurd c73 (nI_ge h9 (by omega))
              exact ih (c + 1) _ _ _ _ (by omega) (by rw [em1, e1, if_neg (fun h9 => hw h9.2), hx]) (by rw [em1, e1, if_neg (fun h9 => hw h9.2), hy]) (nI_1 c) hl hb0
            · rw [hy] at c73
              rw [k8, hbt] at c58
              have hd : aD A (c / 8) = 0 := of_decide_eq_true c58
              have hw : wstM K (aB A) (wBits K H (-1) 0) c < (nxS K A (wBits K H (-1) 0) c).2 := (nI_lt' (by omega) (by omega)).mp (ne_le c73)
              exact ih (c + 1) _ _ _ _ (by omega) (by rw [em1, e1, if_pos ⟨hd, hw⟩]) (by rw [em1, e1, if_pos ⟨hd, hw⟩]) (nI_1 c) hl hb0
      · have em : min (c + 1) (8 * kL K) = min c (8 * kL K) := by omega
        rw [decide_eq_false (show ¬ c / 8 < kL K by omega), Bool.false_and] at ebit
        rw [ebit] at hbt
        refine V_go C tk_GD_next [35] 70 ?_
        refine And.intro (fun c39 => ?_) (fun c39 => ?_)
        · exact absurd c39 (nI_ge (b := 40) (by omega) (by decide))
        · refine ⟨_, ⟨_, by decide, (ct_Night_litNow_3 hs hn)⟩, fun r46 h46 p46 => ?_⟩
          obtain ⟨rfl, rfl⟩ := p46
          refine And.intro (by decide) ?_
          refine And.intro (fun c58 => ?_) (fun c58 => ?_)
          · exact ih (c + 1) _ _ _ _ (by omega) (by rw [em, hx]) (by rw [em, hy]) (nI_1 c) hl hb0
          · rw [k8, hbt] at c58; cases c58
  refine V_go C tk_GD_next [35] 70 ?_
  refine And.intro (fun c7 => ?_) (fun c7 => ?_)
  · refine ⟨_, ⟨_, by decide, (ct_Heard_worldsLeft hs hr hlt)⟩, fun r17 h17 p17 => ?_⟩
    obtain ⟨rfl, rfl⟩ := p17
    refine And.intro (fun c22 => ?_) (fun c22 => ?_)
    · rw [cL0 hs] at c7
      rw [e0] at c22
      exact loop 40 0 _ _ _ _ (by omega) (by rw [Nat.zero_min]; rfl) (by rw [Nat.zero_min]; rfl) rfl c7 c22
    · rw [cL0 hs] at c7
      rw [e0] at c22
      exact ⟨by unfold nextV nxV; rw [if_neg c7, if_pos c22], rfl⟩
  · rw [cL0 hs] at c7
    exact ⟨by unfold nextV; rw [if_pos c7], rfl⟩
def PDr (a b : Nat) : Prop := PN5 a b ∨ a = 8
theorem CN5.fr {P : Nat → Nat → Prop} {K : KF} {A : AS} {q3 q4 : Nat → Int32} {F : Nat} {h h' : Hp} (a : CN5 K A q3 q4 F h) (f : Fr P h h') (hp : ∀ i j, P i j → i ≠ 5 ∧ ¬ (57 ≤ i ∧ i ≤ 62)) : CN5 K A q3 q4 F h' := by
  have g : ∀ i j, (i = 5 ∨ (57 ≤ i ∧ i ≤ 62)) → h'.1 i j = h.1 i j := fun i j hi => f.1 i j (fun h9 => by have := hp _ _ h9; omega)
  obtain ⟨⟨n1, n2⟩, n3, n4, ⟨n5, n6⟩, n7⟩ := a
  refine ⟨⟨by rw [g 5 7 (by omega)]; exact n1, n2⟩, fun s hs => ?_, fun k hk => ?_, ⟨by rw [g 5 8 (by omega)]; exact n5, n6⟩, by rw [g 5 9 (by omega)]; exact n7⟩
  · rw [g 57 s (by omega), g 58 s (by omega), g 59 s (by omega)]; exact n3 s hs
  · rw [g 60 k (by omega), g 61 k (by omega), g 62 k (by omega)]; exact n4 k hk
theorem ct_GD_isNoByDraws {K : KF} {F : Nat} {st : NS} {q3 q4 : Nat → Int32} {h : Hp} (hs : CSt K h) (hL0 : ¬ kL K = 0) (hn : CN5 K st.1 q3 q4 F h) (hd : h.1 8 0 = st.2.1) : Ct 5 md_GD_isNoByDraws [.ref 0] h (fun r h' => r = some (.int (tI (ntQ K st && !(ntY K F st)))) ∧ (∃ p3 p4, CN5 K (ntA K F st) p3 p4 F h') ∧ h'.1 8 0 = (bif ntQ K st then sdF (sdF (sdF st.2.1)) else sdF st.2.1) ∧ Fr PDr h h') := by
  refine Ct_of 6 rfl rfl rfl (fun X C => ?_)
  have hL5 := hs.1.1.2
  have hk : ntK K st < kL K := Nat.mod_lt _ (by omega)
  have hf4 : drw (sdF (sdF st.2.1)) 4 < 4 := Nat.mod_lt _ (by decide)
  have hf2 : drw (sdF (sdF (sdF st.2.1))) 2 < 2 := Nat.mod_lt _ (by decide)
  by_cases hq : aD st.1 (ntK K st) = 0
  · have hQ : ntQ K st = true := decide_eq_true hq
    have L57 : ∀ (t : Int32) (r3 : Option Value) (x : Hp), t = tI (decide (drw (sdF (sdF (sdF st.2.1))) 2 = 1)) → CSt K x → CN5 K st.1 q3 q4 F x → x.1 8 0 = sdF (sdF (sdF st.2.1)) → Fr PDr h x → V X 57 [some (.ref 0), some (.int (nI (ntK K st))), some (.int (nI (drw (sdF (sdF st.2.1)) 4))), r3] [.int t] x := by
      intro t r3 x ht h1 h2 h3 hf
      subst ht
      refine V_go C tk_GD_isNoByDraws [] 61 ?_
      refine ⟨_, ⟨_, by decide, (ct_Night_answer_5 h1 h2 hk hf4 _ hq)⟩, fun r65 h65 p65 => ?_⟩
      obtain ⟨rfl, l1, l2⟩ := p65
      refine And.intro (fun c68 => ?_) (fun c68 => ?_)
      · rw [tI_n] at c68
        have hY : ntY K F st = true := c68
        refine ⟨by decide, by rw [hQ, hY]; rfl, ⟨_, _, by unfold ntA; rw [hQ]; exact l1⟩, ?_, hf.tr (l2.mono (fun _ _ h9 => Or.inl h9))⟩
        rw [hQ, l2.1 8 0 (by unfold PN5; omega)]
        exact h3
      · rw [tI_0] at c68
        have hY : ntY K F st = false := c68
        refine ⟨by decide, by rw [hQ, hY]; rfl, ⟨_, _, by unfold ntA; rw [hQ]; exact l1⟩, ?_, hf.tr (l2.mono (fun _ _ h9 => Or.inl h9))⟩
        rw [hQ, l2.1 8 0 (by unfold PN5; omega)]
        exact h3
    refine V_go C tk_GD_isNoByDraws [57] 61 ?_
    refine ⟨_, ⟨_, by decide, (ct_Draws_draw hs.1.1.1 (by omega) (by omega))⟩, fun r11 h11 p11 => ?_⟩
    obtain ⟨rfl, u1, u2⟩ := p11
    rw [hd] at u1
    have h5 : CN5 K st.1 q3 q4 F h11 := hn.fr u2 (fun i j h9 => by unfold PDc at h9; omega)
    have h6 : CSt K h11 := hs.fr u2 (fun i j h9 => by unfold PDc at h9; omega)
    refine ⟨_, ⟨_, by decide, (ct_Row_at (r := 28) (a := 60) (n := 5) (k := ntK K st) (by decide) (by rw [hd]; rfl) (by omega) _)⟩, fun r23 h23 p23 => ?_⟩
    rw [(h5.2.2.1 _ hk).1.1, hq] at p23
    obtain ⟨rfl, rfl⟩ := p23
    refine And.intro (fun c26 => ?_) (fun c26 => ?_)
    · refine ⟨_, ⟨_, by decide, (ct_Draws_draw (b := 4) rfl (by decide) (by decide))⟩, fun r36 h36 p36 => ?_⟩
      obtain ⟨rfl, u3, u4⟩ := p36
      rw [u1] at u3
      have h7 : CN5 K st.1 q3 q4 F h36 := h5.fr u4 (fun i j h9 => by unfold PDc at h9; omega)
      have h8 : CSt K h36 := h6.fr u4 (fun i j h9 => by unfold PDc at h9; omega)
      refine ⟨_, ⟨_, by decide, (ct_Draws_draw (b := 2) rfl (by decide) (by decide))⟩, fun r45 h45 p45 => ?_⟩
      obtain ⟨rfl, u5, u6⟩ := p45
      rw [u3] at u5
      have h9 : CN5 K st.1 q3 q4 F h45 := h7.fr u6 (fun i j h9 => by unfold PDc at h9; omega)
      have h10 : CSt K h45 := h8.fr u6 (fun i j h9 => by unfold PDc at h9; omega)
      have hfr : Fr PDr h h45 := ((u2.mono (Q := PDr) (fun a b h9 => by unfold PDc at h9; unfold PDr; omega)).tr (u4.mono (fun a b h9 => by unfold PDc at h9; unfold PDr; omega))).tr (u6.mono (fun a b h9 => by unfold PDc at h9; unfold PDr; omega))
      refine And.intro (fun c49 => ?_) (fun c49 => ?_)
      · rw [u3] at c49
        rw [hd, u1]
        exact L57 _ _ _ (by rw [decide_eq_false (fun h9 => c49 (by rw [h9]; rfl))]; rfl) h10 h9 u5 hfr
      · rw [u3] at c49
        rw [hd, u1]
        exact L57 _ _ _ (by rw [decide_eq_true (nI_inj (by omega) (by decide) c49)]; rfl) h10 h9 u5 hfr
    · exact absurd (by decide) c26
  · have hQ : ntQ K st = false := decide_eq_false hq
    refine V_go C tk_GD_isNoByDraws [31] 61 ?_
    refine ⟨_, ⟨_, by decide, (ct_Draws_draw hs.1.1.1 (by omega) (by omega))⟩, fun r11 h11 p11 => ?_⟩
    obtain ⟨rfl, u1, u2⟩ := p11
    rw [hd] at u1
    have h5 : CN5 K st.1 q3 q4 F h11 := hn.fr u2 (fun i j h9 => by unfold PDc at h9; omega)
    refine ⟨_, ⟨_, by decide, (ct_Row_at (r := 28) (a := 60) (n := 5) (k := ntK K st) (by decide) (by rw [hd]; rfl) (by omega) _)⟩, fun r23 h23 p23 => ?_⟩
    rw [(h5.2.2.1 _ hk).1.1] at p23
    obtain ⟨rfl, rfl⟩ := p23
    refine And.intro (fun c26 => ?_) (fun c26 => ?_)
    · exact absurd c26 (nI_ge (a := 0) (by omega) (by have := (h5.2.2.1 _ hk).1.2; omega))
    · exact ⟨by decide, by rw [hQ]; rfl, ⟨_, _, by unfold ntA; rw [hQ]; exact h5⟩, by rw [hQ]; exact u1, u2.mono (fun a b h9 => by unfold PDc at h9; unfold PDr; omega)⟩
theorem CSt.dr {K : KF} {h h' : Hp} (a : CSt K h) (f : Fr PDr h h') : CSt K h' := a.fr f (fun i j h9 => by unfold PDr PN5 at h9; omega)
theorem ct_GD_nights {K : KF} {A : AS} {q3 q4 : Nat → Int32} {F : Nat} {h : Hp} (hs : CSt K h) (hn : CN3 K A q3 q4 F h) (b s w : Int32) : Ct 6 md_GD_nights [.ref 0, .int b, .int s, .int w] h (fun r h' => r = some (.int (ngV K A F b s w)) ∧ Fr PDr h h') := by
  refine Ct_of 6 rfl rfl rfl (fun X C => ?_)
  cases hok : ngOk b s w with
  | false =>
    have hv : ngV K A F b s w = -102 := by unfold ngV; rw [hok]; rfl
    refine V_go C tk_GD_nights [27, 68] 84 ?_
    refine And.intro (fun c2 => ?_) (fun c2 => ?_)
    · exact ⟨by rw [hv], Fr.rf⟩
    · refine And.intro (fun c8 => ?_) (fun c8 => ?_)
      · exact ⟨by rw [hv], Fr.rf⟩
      · refine And.intro (fun c12 => ?_) (fun c12 => ?_)
        · exact ⟨by rw [hv], Fr.rf⟩
        · refine And.intro (fun c16 => ?_) (fun c16 => ?_)
          · exact ⟨by rw [hv], Fr.rf⟩
          · refine And.intro (fun c21 => ?_) (fun c21 => ?_)
            · exfalso; unfold ngOk at hok; rw [decide_eq_true (Int32.not_lt.mp c2), decide_eq_true (Int32.not_lt.mp c8), decide_eq_false c12, iR_5 (L := 3) rfl c16 c21] at hok; cases hok
            · exact ⟨by rw [hv], Fr.rf⟩
  | true =>
    have hok' := hok
    unfold ngOk at hok'
    rw [Bool.and_eq_true, Bool.and_eq_true, Bool.and_eq_true, decide_eq_true_iff, decide_eq_true_iff, Bool.not_eq_true', decide_eq_false_iff_not] at hok'
    obtain ⟨⟨⟨o1, o2⟩, o3⟩, o4⟩ := hok'
    obtain ⟨v, hv3, rfl⟩ := inR_t o4
    obtain ⟨m, hm40, rfl⟩ : ∃ m : Nat, m ≤ 40 ∧ b = nI m := by
      have t1 : 1 ≤ b.toInt := by rw [Int32.le_iff_toInt_le, show (1 : Int32).toInt = 1 from rfl] at o1; exact o1
      have t2 : b.toInt ≤ 40 := by rw [Int32.le_iff_toInt_le, show (40 : Int32).toInt = 40 from rfl] at o2; exact o2
      refine ⟨b.toInt.toNat, by omega, ?_⟩
      rw [← ofInt_nat, Int.toNat_of_nonneg (by omega), Int32.ofInt_toInt]
    have em := nIc (i := m) (by omega)
    by_cases hl0 : kL K = 0
    · have hv : ngV K A F (nI m) s (nI v) = -103 := by unfold ngV; rw [hok, if_pos rfl, if_pos hl0]
      refine V_go C tk_GD_nights [40, 68] 84 ?_
      refine And.intro (fun c2 => ?_) (fun c2 => ?_)
      · exact absurd o1 (Int32.not_le.mpr c2)
      · refine And.intro (fun c8 => ?_) (fun c8 => ?_)
        · exact absurd o2 (Int32.not_le.mpr c8)
        · refine And.intro (fun c12 => ?_) (fun c12 => ?_)
          · exact absurd c12 o3
          · refine And.intro (fun c16 => ?_) (fun c16 => ?_)
            · exact absurd c16 (nI_pos (by omega))
            · refine And.intro (fun c21 => ?_) (fun c21 => ?_)
              · refine And.intro (fun c34 => ?_) (fun c34 => ?_)
                · exact absurd ((cL0 hs).mpr hl0) c34
                · exact ⟨by rw [hv], Fr.rf⟩
              · exact absurd (nI_le (b := 2) (by omega) (by decide)) c21
    · have hv : ngV K A F (nI m) s (nI v) = if nI v = 0 then nI (ntI K F m (A, s, 0, 0)).2.2.1 else if nI v = 1 then nI (ntI K F m (A, s, 0, 0)).2.2.2 else (ntI K F m (A, s, 0, 0)).2.1 := by unfold ngV; rw [hok, if_pos rfl, if_neg hl0, em]
      have loop : ∀ (n i : Nat) (st : NS) (x y z : Int32) (hh : Hp) (p3 p4 : Nat → Int32), i + n = m → CSt K hh → CN5 K st.1 p3 p4 F hh → hh.1 8 0 = st.2.1 → x = nI st.2.2.1 → y = nI st.2.2.2 → z = nI i → ntI K F n st = ntI K F m (A, s, 0, 0) → Fr PDr h hh → V X 68 [some (.ref 0), some (.int (nI m)), some (.int s), some (.int (nI v)), some (.int x), some (.int y), some (.int z)] [] hh := by
        intro n
        induction n with
        | zero =>
          intro i st x y z hh p3 p4 hi h1 h2 h3 hx hy hz he hf
          subst hz
          have he' : st = ntI K F m (A, s, 0, 0) := he
          obtain rfl : i = m := by omega
          refine V_go C tk_GD_nights [68] 84 ?_
          refine And.intro (fun c71 => ?_) (fun c71 => ?_)
          · refine And.intro (fun c103 => ?_) (fun c103 => ?_)
            · refine And.intro (fun c111 => ?_) (fun c111 => ?_)
              · exact ⟨by rw [hv, if_neg c103, if_neg c111, ← he', h3], hf⟩
              · exact ⟨by rw [hv, if_neg c103, if_pos c111, ← he', hy], hf⟩
            · exact ⟨by rw [hv, if_pos c103, ← he', hx], hf⟩
          · exact absurd (Int32.le_refl _) c71
        | succ n ih =>
          intro i st x y z hh p3 p4 hi h1 h2 h3 hx hy hz he hf
          subst hz
          have he' : ntI K F n (ntS K F st) = ntI K F m (A, s, 0, 0) := he
          refine V_go C tk_GD_nights [68] 84 ?_
          refine And.intro (fun c71 => ?_) (fun c71 => ?_)
          · exact absurd c71 (nI_ge (by omega) (by omega))
          · refine ⟨_, ⟨_, by decide, (ct_GD_isNoByDraws h1 hl0 h2 h3)⟩, fun r75 h75 p75 => ?_⟩
            obtain ⟨rfl, ⟨a3, a4, l1⟩, l2, l3⟩ := p75
            refine And.intro (fun c78 => ?_) (fun c78 => ?_)
            · refine ⟨_, ⟨_, by decide, (ct_Night_passBreath_5 (h1.dr l3) l1)⟩, fun r90 h90 p90 => ?_⟩
              obtain ⟨rfl, l4, l5⟩ := p90
              rw [tI_0] at c78
              refine ih (i + 1) (ntS K F st) _ _ _ _ a3 a4 (by omega) ((h1.dr l3).n5 l5) l4 ?_ ?_ ?_ (nI_1 i) he' ((hf.tr l3).tr (l5.mono (fun _ _ h9 => Or.inl h9)))
              · rw [l5.1 8 0 (by unfold PN5; omega), l2]; rfl
              · rw [hx, nI_add]; rfl
              · rw [hy]
                show _ = nI (st.2.2.2 + (bif ntQ K st && !(ntY K F st) then 1 else 0))
                rw [c78]; rfl
            · refine ⟨_, ⟨_, by decide, (ct_Night_passBreath_5 (h1.dr l3) l1)⟩, fun r90 h90 p90 => ?_⟩
              obtain ⟨rfl, l4, l5⟩ := p90
              rw [tI_n] at c78
              refine ih (i + 1) (ntS K F st) _ _ _ _ a3 a4 (by omega) ((h1.dr l3).n5 l5) l4 ?_ ?_ ?_ (nI_1 i) he' ((hf.tr l3).tr (l5.mono (fun _ _ h9 => Or.inl h9)))
              · rw [l5.1 8 0 (by unfold PN5; omega), l2]; rfl
              · rw [hx, nI_add]; rfl
              · rw [hy]
                show _ = nI (st.2.2.2 + (bif ntQ K st && !(ntY K F st) then 1 else 0))
                rw [c78]; exact nI_1 _
      refine V_go C tk_GD_nights [68] 84 ?_
      refine And.intro (fun c2 => ?_) (fun c2 => ?_)
      · exact absurd o1 (Int32.not_le.mpr c2)
      · refine And.intro (fun c8 => ?_) (fun c8 => ?_)
        · exact absurd o2 (Int32.not_le.mpr c8)
        · refine And.intro (fun c12 => ?_) (fun c12 => ?_)
          · exact absurd c12 o3
          · refine And.intro (fun c16 => ?_) (fun c16 => ?_)
            · exact absurd c16 (nI_pos (by omega))
            · refine And.intro (fun c21 => ?_) (fun c21 => ?_)
              · refine And.intro (fun c34 => ?_) (fun c34 => ?_)
                · refine ⟨_, ⟨_, by decide, (ct_Night_copyFrom_53 hs.1.1.2 hn)⟩, fun r48 h48 p48 => ?_⟩
                  obtain ⟨rfl, l1, l2⟩ := p48
                  have fin : Fr (fun a _ => a = 8) h48 (up2 h48.1 8 0 s, h48.2) := Fr.rf.up rfl
                  exact loop m 0 (A, s, 0, 0) _ _ _ _ q3 q4 (by omega) ((hs.n5 l2).fr fin (fun i j h9 => by omega)) (l1.fr fin (fun i j h9 => by omega)) (by simp [up2]) rfl rfl rfl rfl ((l2.mono (Q := PDr) (fun _ _ h9 => Or.inl h9)).tr (fin.mono (fun _ _ h9 => Or.inr h9)))
                · exact absurd ((cL0 hs).mp c34) hl0
              · exact absurd (nI_le (b := 2) (by omega) (by decide)) c21
