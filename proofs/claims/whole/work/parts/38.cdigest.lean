/-! ===== the class: its digest ===== -/
theorem ct_GD_digest {K : KF} {A : AS} {q3 q4 : Nat → Int32} {F : Nat} {H : HD} {p : Nat} {pg : Nat → Int32} {c : Nat} {h : Hp} (hs : CSt K h) (hn : CN3 K A q3 q4 F h) (hr : CH6 H h) (hlt : ∀ i, i < dM H → dL H i < kL K) (hp : CP p pg h) (hc : h.1 0 9 = nI c) : Ct 6 md_GD_digest [.ref 0] h (fun r h' => r = some (.long (digV K A q3 q4 F H p pg c)) ∧ Fr PN5 h h') := by
  refine Ct_of 6 rfl rfl rfl (fun X C => ?_)
  have hL5 := hs.1.1.2
  have hN3 := hn.1.2
  have hp18 := hp.1.2
  have gs : ∀ {x : Hp}, Fr PN5 h x → CSt K x := fun f => hs.n5 f
  have gn : ∀ {x : Hp}, Fr PN5 h x → CN3 K A q3 q4 F x := fun f => hn.fr f (fun i j h9 => by unfold PN5 at h9; omega)
  have gr : ∀ {x : Hp}, Fr PN5 h x → CH6 H x := fun f => hr.fr f (fun i j h9 => by unfold PN5 at h9; omega)
  have gp : ∀ {x : Hp}, Fr PN5 h x → CP p pg x := fun f => hp.fr f (fun i j h9 => by unfold PN5 at h9; omega)
  have gc : ∀ {x : Hp}, Fr PN5 h x → x.1 0 9 = nI c := fun f => by rw [f.1 0 9 (by unfold PN5; omega)]; exact hc
  have loop6 : ∀ (n i : Nat) (b : Int32) (r4 : Option Value) (x : Hp) (z0 z : Int64), i + n = 12 → b = nI i → Fr PN5 h x → z = sy (fun w => cntV K A F (dM H) p c (nI w)) i z0 → sy (fun w => cntV K A F (dM H) p c (nI w)) 12 z0 = digV K A q3 q4 F H p pg c → V X 230 [some (.ref 0), some (.long z), none, some (.int b), r4] [] x := by
    intro n
    induction n with
    | zero =>
      intro i b r4 x z0 z hi hb hf hz hd
      subst hb
      obtain rfl : i = 12 := by omega
      refine V_go C tk_GD_digest [6, 20, 69, 83, 154, 192, 230] 167 ?_
      refine And.intro (fun c233 => ?_) (fun c233 => ?_)
      · exact ⟨by rw [hz, hd], hf⟩
      · exact absurd (by decide) c233
    | succ n ih =>
      intro i b r4 x z0 z hi hb hf hz hd
      subst hb
      refine V_go C tk_GD_digest [6, 20, 69, 83, 154, 192, 230] 167 ?_
      refine And.intro (fun c233 => ?_) (fun c233 => ?_)
      · exact absurd c233 (nI_ge (b := 12) (by omega) (by decide))
      · refine ⟨_, ⟨_, by decide, (ct_GD_count (gs hf) (gn hf) (gr hf) (gp hf) (gc hf) (nI i))⟩, fun r243 h243 p243 => ?_⟩
        obtain ⟨rfl, rfl⟩ := p243
        exact ih (i + 1) _ _ _ z0 _ (by omega) (nI_1 i) hf (by rw [hz]; rfl) hd
  have loop5 : ∀ (n i : Nat) (b : Int32) (r4 : Option Value) (x : Hp) (z0 z : Int64), i + n = p → b = nI i → Fr PN5 h x → z = sy pg i z0 → sy (fun w => cntV K A F (dM H) p c (nI w)) 12 (sy pg p z0) = digV K A q3 q4 F H p pg c → V X 192 [some (.ref 0), some (.long z), none, some (.int b), r4] [] x := by
    intro n
    induction n with
    | zero =>
      intro i b r4 x z0 z hi hb hf hz hd
      subst hb
      obtain rfl : i = p := by omega
      refine V_go C tk_GD_digest [6, 20, 69, 83, 154, 192, 230] 167 ?_
      refine And.intro (fun c200 => ?_) (fun c200 => ?_)
      · exact loop6 12 0 _ _ _ (sy pg i z0) _ rfl rfl hf hz hd
      · exact absurd (nle (gp hf).1.1) c200
    | succ n ih =>
      intro i b r4 x z0 z hi hb hf hz hd
      subst hb
      refine V_go C tk_GD_digest [6, 20, 69, 83, 154, 192, 230] 167 ?_
      refine And.intro (fun c200 => ?_) (fun c200 => ?_)
      · exact absurd c200 (nge (by omega) (by omega) (gp hf).1.1)
      · refine ⟨_, ⟨_, by decide, (ct_Row_at (r := 9) (a := 41) (n := 18) (by decide) rfl (by omega) x)⟩, fun r216 h216 p216 => ?_⟩
        rw [(gp hf).2 i (by omega)] at p216
        obtain ⟨rfl, rfl⟩ := p216
        exact ih (i + 1) _ _ _ z0 _ (by omega) (nI_1 i) hf (by rw [hz]; rfl) hd
  have L190 : ∀ (r3 : Int32) (r4 : Option Value) (x : Hp) (z : Int64), Fr PN5 h x → sy (fun w => cntV K A F (dM H) p c (nI w)) 12 (sy pg p z) = digV K A q3 q4 F H p pg c → V X 190 [some (.ref 0), some (.long z), none, some (.int r3), r4] [] x := by
    intro r3 r4 x z hf hd
    refine V_go C tk_GD_digest [6, 20, 69, 83, 154, 192, 230] 167 ?_
    exact loop5 p 0 _ _ _ z _ (by omega) rfl hf rfl hd
  have hb := wBits_lt K H (-1) 0
  have loop4 : ∀ (n i : Nat) (b : Int32) (r4 : Option Value) (x : Hp) (z0 z : Int64), ¬ kL K = 0 → i + n = 4 → b = nI i → Fr PN5 h x → z = sy (fun w => wdV (wBits K H (-1) 0) (nI w)) i z0 → sy (fun w => cntV K A F (dM H) p c (nI w)) 12 (sy pg p (31 * sy (fun w => wdV (wBits K H (-1) 0) (nI w)) 4 z0 + (nxV K A (wBits K H (-1) 0)).toInt64)) = digV K A q3 q4 F H p pg c → V X 154 [some (.ref 0), some (.long z), none, some (.int b), r4] [] x := by
    intro n
    induction n with
    | zero =>
      intro i b r4 x z0 z hl hi hb hf hz hd
      subst hb
      obtain rfl : i = 4 := by omega
      have en : nextV K A H = nxV K A (wBits K H (-1) 0) := by unfold nextV; rw [if_neg hl]
      refine V_go C tk_GD_digest [6, 20, 69, 83, 154, 190, 192, 230] 167 ?_
      refine And.intro (fun c156 => ?_) (fun c156 => ?_)
      · refine ⟨_, ⟨_, by decide, (ct_GD_next (gs hf) (gn hf) (gr hf) hlt)⟩, fun r184 h184 p184 => ?_⟩
        rw [en] at p184
        obtain ⟨rfl, rfl⟩ := p184
        exact L190 _ _ _ _ hf (by rw [hz]; exact hd)
      · exact absurd (by decide) c156
    | succ n ih =>
      intro i b r4 x z0 z hl hi hb hf hz hd
      subst hb
      have ew : wldV K H (nI i) = wdV (wBits K H (-1) 0) (nI i) := by unfold wldV; rw [inR_nI (by omega) (by decide), if_pos rfl, if_neg hl]
      refine V_go C tk_GD_digest [6, 20, 69, 83, 154, 192, 230] 167 ?_
      refine And.intro (fun c156 => ?_) (fun c156 => ?_)
      · exact absurd c156 (nI_ge (b := 4) (by omega) (by decide))
      · refine ⟨_, ⟨_, by decide, (ct_GD_worlds (gs hf) (gr hf) hlt (nI i))⟩, fun r166 h166 p166 => ?_⟩
        rw [ew] at p166
        obtain ⟨rfl, rfl⟩ := p166
        exact ih (i + 1) _ _ _ z0 _ hl (by omega) (nI_1 i) hf (by rw [hz]; rfl) hd
  have L116 : ∀ (r3 : Int32) (r4 : Option Value) (x : Hp) (z : Int64), Fr PN5 h x → sy (fun w => cntV K A F (dM H) p c (nI w)) 12 (sy pg p (mdF K A H z)) = digV K A q3 q4 F H p pg c → V X 116 [some (.ref 0), some (.long z), none, some (.int r3), r4] [] x := by
    intro r3 r4 x z hf hd
    by_cases hl : kL K = 0
    · have e : mdF K A H z = z := by unfold mdF; rw [if_pos hl]
      rw [e] at hd
      refine V_go C tk_GD_digest [6, 20, 69, 83, 154, 190, 192, 230] 167 ?_
      refine And.intro (fun c123 => ?_) (fun c123 => ?_)
      · exact L190 _ _ _ _ hf hd
      · rw [(cL0 (gs hf)).mpr hl] at c123; exact absurd (by decide) c123
    · have e : mdF K A H z = 31 * sy (fun w => wdV (wBits K H (-1) 0) (nI w)) 4 (31 * (31 * z + (nI (pc16 (osF K A 31))).toInt64) + (nI (osF K A 31)).toInt64) + (nxV K A (wBits K H (-1) 0)).toInt64 := by unfold mdF; rw [if_neg hl]
      rw [e] at hd
      have o0 : onceV K A 0 = nI (pc16 (osF K A 31)) := by unfold onceV; rw [show inR 0 2 = true from inR_nI (j := 0) (by decide) (by decide), if_pos rfl, if_neg hl, if_pos rfl]
      have o1 : onceV K A 1 = nI (osF K A 31) := by unfold onceV; rw [show inR 1 2 = true from inR_nI (j := 1) (by decide) (by decide), if_pos rfl, if_neg hl, if_neg (by decide)]
      refine V_go C tk_GD_digest [6, 20, 69, 83, 154, 190, 192, 230] 167 ?_
      refine And.intro (fun c123 => ?_) (fun c123 => ?_)
      · rw [(gs hf).1.1.1] at c123; exact absurd c123 (nI_ge (a := 0) (by omega) (by omega))
      · refine ⟨_, ⟨_, by decide, (ct_GD_atOnce (gs hf) (gn hf) 0)⟩, fun r133 h133 p133 => ?_⟩
        rw [o0] at p133
        obtain ⟨rfl, rfl⟩ := p133
        refine ⟨_, ⟨_, by decide, (ct_GD_atOnce (gs hf) (gn hf) 1)⟩, fun r146 h146 p146 => ?_⟩
        rw [o1] at p146
        obtain ⟨rfl, rfl⟩ := p146
        exact loop4 4 0 _ _ _ _ _ hl (by omega) rfl hf rfl hd
  have loop3 : ∀ (n i : Nat) (b : Int32) (r4 : Option Value) (x : Hp) (z0 z : Int64), i + n = kN K → b = nI i → Fr PN5 h x → z = sbs K A i z0 → sy (fun w => cntV K A F (dM H) p c (nI w)) 12 (sy pg p (mdF K A H (sbs K A (kN K) z0))) = digV K A q3 q4 F H p pg c → V X 69 [some (.ref 0), some (.long z), none, some (.int b), r4] [] x := by
    intro n
    induction n with
    | zero =>
      intro i b r4 x z0 z hi hb hf hz hd
      subst hb
      obtain rfl : i = kN K := by omega
      refine V_go C tk_GD_digest [6, 20, 69, 83, 116, 154, 192, 230] 167 ?_
      refine And.intro (fun c77 => ?_) (fun c77 => ?_)
      · exact L116 _ _ _ _ hf (by rw [hz]; exact hd)
      · exact absurd (nle (gn hf).1.1) c77
    | succ n ih =>
      intro i b r4 x z0 z hi hb hf hz hd
      subst hb
      have hiN : i < kN K := by omega
      have e := nIc (i := i) (by omega)
      have inner : ∀ (q w : Nat) (d : Int32) (x : Hp) (y : Int64), w + q = 4 → d = nI w → Fr PN5 h x → y = sy (fun w => shipV K A i (nI w)) w z → V X 83 [some (.ref 0), some (.long y), none, some (.int (nI i)), some (.int d)] [] x := by
        intro q
        induction q with
        | zero =>
          intro w d x y hw hd' hf hy
          subst hd'
          obtain rfl : w = 4 := by omega
          refine V_go C tk_GD_digest [6, 20, 69, 83, 154, 192, 230] 167 ?_
          refine And.intro (fun c86 => ?_) (fun c86 => ?_)
          · exact ih (i + 1) _ _ _ z0 _ (by omega) (nI_1 i) hf (by rw [hy, hz]; rfl) hd
          · exact absurd (by decide) c86
        | succ q ihq =>
          intro w d x y hw hd' hf hy
          subst hd'
          have ev : (if inR (nI i) (kN K) then shipV K A (nI i).toNatClampNeg (nI w) else -101) = shipV K A i (nI w) := by rw [inR_nI hiN (by omega), if_pos rfl, e]
          refine V_go C tk_GD_digest [6, 20, 69, 83, 154, 192, 230] 167 ?_
          refine And.intro (fun c86 => ?_) (fun c86 => ?_)
          · exact absurd c86 (nI_ge (b := 4) (by omega) (by decide))
          · refine ⟨_, ⟨_, by decide, (ct_GD_shipOf (gs hf) (gn hf) (nI i) (nI w))⟩, fun r98 h98 p98 => ?_⟩
            rw [ev] at p98
            obtain ⟨rfl, rfl⟩ := p98
            exact ihq (w + 1) _ _ _ (by omega) (nI_1 w) hf (by rw [hy]; rfl)
      refine V_go C tk_GD_digest [6, 20, 69, 83, 154, 192, 230] 167 ?_
      refine And.intro (fun c77 => ?_) (fun c77 => ?_)
      · exact absurd c77 (nge (by omega) (by omega) (gn hf).1.1)
      · exact inner 4 0 _ _ _ (by omega) rfl hf rfl
  have loop1 : ∀ (n i : Nat) (b : Int32) (r4 : Option Value) (x : Hp) (z : Int64), i + n = kL K → b = nI i → Fr PN5 h x → z = lbs K A q3 q4 H i 877 → V X 6 [some (.ref 0), some (.long z), none, some (.int b), r4] [] x := by
    intro n
    induction n with
    | zero =>
      intro i b r4 x z hi hb hf hz
      subst hb
      obtain rfl : i = kL K := by omega
      refine V_go C tk_GD_digest [6, 20, 69, 83, 154, 192, 230] 167 ?_
      refine And.intro (fun c14 => ?_) (fun c14 => ?_)
      · exact loop3 (kN K) 0 _ _ _ _ _ (by omega) rfl hf rfl (by rw [hz]; rfl)
      · exact absurd (nle (gs hf).1.1.1) c14
    | succ n ih =>
      intro i b r4 x z hi hb hf hz
      subst hb
      have hiL : i < kL K := by omega
      have e := nIc (i := i) (by omega)
      have inner : ∀ (q w : Nat) (d : Int32) (x : Hp) (y : Int64), w + q = 7 → d = nI w → Fr PN5 h x → y = sy (fun w => tellV K A q3 q4 i (nI w)) w z → V X 20 [some (.ref 0), some (.long y), none, some (.int (nI i)), some (.int d)] [] x := by
        intro q
        induction q with
        | zero =>
          intro w d x y hw hd' hf hy
          subst hd'
          obtain rfl : w = 7 := by omega
          have ek : kndV K H (nI i) = nI (kdV K H i) := by unfold kndV; rw [inR_nI hiL (by omega), if_pos rfl, e]
          refine V_go C tk_GD_digest [6, 20, 69, 83, 154, 192, 230] 167 ?_
          refine And.intro (fun c24 => ?_) (fun c24 => ?_)
          · refine ⟨_, ⟨_, by decide, (ct_GD_kinds (gs hf) (gr hf) hlt (nI i))⟩, fun r55 h55 p55 => ?_⟩
            rw [ek] at p55
            obtain ⟨rfl, rfl⟩ := p55
            exact ih (i + 1) _ _ _ _ (by omega) (nI_1 i) hf (by rw [hy, hz]; rfl)
          · exact absurd (by decide) c24
        | succ q ihq =>
          intro w d x y hw hd' hf hy
          subst hd'
          have ev : (if inR (nI i) (kL K) then tellV K A q3 q4 (nI i).toNatClampNeg (nI w) else -101) = tellV K A q3 q4 i (nI w) := by rw [inR_nI hiL (by omega), if_pos rfl, e]
          refine V_go C tk_GD_digest [6, 20, 69, 83, 154, 192, 230] 167 ?_
          refine And.intro (fun c24 => ?_) (fun c24 => ?_)
          · exact absurd c24 (nI_ge (b := 7) (by omega) (by decide))
          · refine ⟨_, ⟨_, by decide, (ct_GD_about (gs hf) (gn hf) (nI i) (nI w))⟩, fun r36 h36 p36 => ?_⟩
            rw [ev] at p36
            obtain ⟨rfl, l1⟩ := p36
            exact ihq (w + 1) _ _ _ (by omega) (nI_1 w) (hf.tr l1) (by rw [hy]; rfl)
      refine V_go C tk_GD_digest [6, 20, 69, 83, 154, 192, 230] 167 ?_
      refine And.intro (fun c14 => ?_) (fun c14 => ?_)
      · exact absurd c14 (nge (by omega) (by omega) (gs hf).1.1.1)
      · exact inner 7 0 _ _ _ (by omega) rfl hf rfl
  refine V_go C tk_GD_digest [6, 20, 69, 83, 154, 192, 230] 167 ?_
  exact loop1 (kL K) 0 _ _ _ _ (by omega) rfl Fr.rf rfl
