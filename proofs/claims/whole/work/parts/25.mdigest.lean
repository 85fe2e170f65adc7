/-! ===== the digest ===== -/
def sy (f : Nat → Int32) : Nat → Int64 → Int64
  | 0, z => z
  | n + 1, z => 31 * sy f n z + (f n).toInt64
def lbF (K : KF) (A : AS) (q3 q4 : Nat → Int32) (H : HD) (k : Nat) (z : Int64) : Int64 := 31 * sy (fun w => tellV K A q3 q4 k (nI w)) 7 z + (nI (kdV K H k)).toInt64
def lbs (K : KF) (A : AS) (q3 q4 : Nat → Int32) (H : HD) : Nat → Int64 → Int64
  | 0, z => z
  | n + 1, z => lbF K A q3 q4 H n (lbs K A q3 q4 H n z)
def sbs (K : KF) (A : AS) : Nat → Int64 → Int64
  | 0, z => z
  | n + 1, z => sy (fun w => shipV K A n (nI w)) 4 (sbs K A n z)
def mdF (K : KF) (A : AS) (H : HD) (z : Int64) : Int64 := if kL K = 0 then z else 31 * sy (fun w => wdV (wBits K H (-1) 0) (nI w)) 4 (31 * (31 * z + (nI (pc16 (osF K A 31))).toInt64) + (nI (osF K A 31)).toInt64) + (nxV K A (wBits K H (-1) 0)).toInt64
def digV (K : KF) (A : AS) (q3 q4 : Nat → Int32) (F : Nat) (H : HD) (p : Nat) (pg : Nat → Int32) (c : Nat) : Int64 := sy (fun w => cntV K A F (dM H) p c (nI w)) 12 (sy pg p (mdF K A H (sbs K A (kN K) (lbs K A q3 q4 H (kL K) 877))))
def Fz (P : Nat → Nat → Prop) (h h' : Hp) : Prop := ∀ a b, ¬ P a b → h'.1 a b = h.1 a b
theorem Fz.tr {P : Nat → Nat → Prop} {h h1 h2 : Hp} (a : Fz P h h1) (b : Fr P h1 h2) : Fz P h h2 := fun i j hn => (b.1 i j hn).trans (a i j hn)
theorem Fz.sy {P : Nat → Nat → Prop} {h h1 : Hp} {z : Int64} (a : Fz P h h1) : Fz P h (h1.1, z) := a
theorem ct_M_say (v : Int64) (h : Hp) : Ct 0 md_M_say [.ref 73, .long v] h (exV (h.1, 31 * h.2 + v)) := by
  refine Ct_of 7 rfl rfl rfl (fun X C => ?_)
  refine V_go C tk_M_say [] 29 ?_
  exact ⟨rfl, rfl⟩
theorem ct_M_digest {K : KF} {A : AS} {q3 q4 : Nat → Int32} {F : Nat} {H : HD} {p : Nat} {pg : Nat → Int32} {c : Nat} {h : Hp} (hr : RN K A q3 q4 F h) (hh : RH 84 23 H h) (hlt : ∀ i, i < dM H → dL H i < kL K) (hp : RP p pg h) (hc : h.1 73 12 = nI c) : Ct 7 md_M_digest [.ref 73] h (fun r h' => r = some (.long (digV K A q3 q4 F H p pg c)) ∧ Fz P9 h h') := by
  refine Ct_of 7 rfl rfl rfl (fun X C => ?_)
  have hL5 := hr.1.1.2
  have hN3 := hr.1.2.2.2.2.1.2
  have hp18 := hp.1.2
  have gr : ∀ {x : Hp}, Fz P9 h x → RN K A q3 q4 F x := fun {x} f => RN.f9 (h' := (x.1, h.2)) hr ⟨f, rfl⟩
  have e : ∀ {x : Hp} {i j : Nat}, Fz P9 h x → (i = 84 ∨ i = 74 ∨ (i = 73 ∧ (j = 1 ∨ j = 12 ∨ j = 23))) → x.1 i j = h.1 i j := fun f hq => f _ _ (fun hn => by unfold P9 P7 P8 at hn; omega)
  have gh : ∀ {x : Hp}, Fz P9 h x → RH 84 23 H x := fun f => hh.to (e f (by omega)) (fun j _ => e f (by omega))
  have gp : ∀ {x : Hp}, Fz P9 h x → RP p pg x := fun f => ⟨⟨by rw [e f (by omega)]; exact hp.1.1, hp18⟩, fun j hj => by rw [e f (by omega)]; exact hp.2 j hj⟩
  have gc : ∀ {x : Hp}, Fz P9 h x → x.1 73 12 = nI c := fun f => by rw [e f (by omega)]; exact hc
  -- the counts
  have loop6 : ∀ (n i : Nat) (b : Int32) (r2 : Option Value) (x : Hp) (z : Int64), i + n = 12 → b = nI i → Fz P9 h x → x.2 = sy (fun w => cntV K A F (dM H) p c (nI w)) i z → sy (fun w => cntV K A F (dM H) p c (nI w)) 12 z = digV K A q3 q4 F H p pg c → V X 186 [some (.ref 73), some (.int b), r2] [] x := by
    intro n
    induction n with
    | zero =>
      intro i b r2 x z hi hb hf hz hd
      subst hb
      obtain rfl : i = 12 := by omega
      refine V_go C tk_M_digest [9, 19, 60, 70, 127, 159, 186] 137 ?_
      refine And.intro (fun c189 => ?_) (fun c189 => ?_)
      · exact ⟨by rw [hz, hd], hf⟩
      · exact absurd (by decide) c189
    | succ n ih =>
      intro i b r2 x z hi hb hf hz hd
      subst hb
      refine V_go C tk_M_digest [9, 19, 60, 70, 127, 159, 186] 137 ?_
      refine And.intro (fun c189 => ?_) (fun c189 => ?_)
      · exact absurd c189 (nI_ge (b := 12) (by omega) (by decide))
      · refine ⟨_, ⟨_, by decide, (ct_M_countOf (gr hf) (gh hf) (gp hf) (gc hf) (nI i))⟩, fun r195 h195 p195 => ?_⟩
        obtain ⟨rfl, rfl⟩ := p195
        refine ⟨_, ⟨_, by decide, (ct_M_say _ _)⟩, fun r199 h199 p199 => ?_⟩
        obtain ⟨rfl, rfl⟩ := p199
        exact ih (i + 1) _ _ _ z (by omega) (nI_1 i) hf (by rw [hz]; rfl) hd
  -- the page
  have loop5 : ∀ (n i : Nat) (b : Int32) (r2 : Option Value) (x : Hp) (z : Int64), i + n = p → b = nI i → Fz P9 h x → x.2 = sy pg i z → sy (fun w => cntV K A F (dM H) p c (nI w)) 12 (sy pg p z) = digV K A q3 q4 F H p pg c → V X 159 [some (.ref 73), some (.int b), r2] [] x := by
    intro n
    induction n with
    | zero =>
      intro i b r2 x z hi hb hf hz hd
      subst hb
      obtain rfl : i = p := by omega
      refine V_go C tk_M_digest [9, 19, 60, 70, 127, 159, 186] 137 ?_
      refine And.intro (fun c164 => ?_) (fun c164 => ?_)
      · exact loop6 12 0 _ _ _ (sy pg i z) rfl rfl hf hz hd
      · exact absurd (nle (gp hf).1.1) c164
    | succ n ih =>
      intro i b r2 x z hi hb hf hz hd
      subst hb
      have e3 := nIc (i := i) (by omega)
      have eg : x.1 74 i = pg i := (gp hf).2 i (by omega)
      refine V_go C tk_M_digest [9, 19, 60, 70, 127, 159, 186] 137 ?_
      refine And.intro (fun c164 => ?_) (fun c164 => ?_)
      · exact absurd c164 (nge (by omega) (by omega) (gp hf).1.1)
      · refine And.intro ((inn (by omega) (by decide))) ?_
        refine ⟨_, ⟨_, by decide, (ct_M_say _ _)⟩, fun r175 h175 p175 => ?_⟩
        obtain ⟨rfl, rfl⟩ := p175
        exact ih (i + 1) _ _ _ z (by omega) (nI_1 i) hf (by show 31 * x.2 + (x.1 74 (nI i).toNatClampNeg).toInt64 = 31 * sy pg i z + (pg i).toInt64; rw [hz, e3, eg]) hd
  -- worlds
  have loop4 : ∀ (n i : Nat) (b v : Int32) (x : Hp) (z : Int64), i + n = 4 → b = nI i → Fz P9 h x → x.2 = sy (fun w => wdV (wBits K H (-1) 0) (nI w)) i z → sy (fun w => cntV K A F (dM H) p c (nI w)) 12 (sy pg p (31 * sy (fun w => wdV (wBits K H (-1) 0) (nI w)) 4 z + (nxV K A (wBits K H (-1) 0)).toInt64)) = digV K A q3 q4 F H p pg c → V X 127 [some (.ref 73), some (.int v), some (.int b)] [] x := by
    intro n
    induction n with
    | zero =>
      intro i b v x z hi hb hf hz hd
      subst hb
      obtain rfl : i = 4 := by omega
      refine V_go C tk_M_digest [9, 19, 60, 70, 127, 159, 186] 137 ?_
      refine And.intro (fun c129 => ?_) (fun c129 => ?_)
      · refine ⟨_, ⟨_, by decide, (ct_M_nextOf (gr hf) (gh hf) hlt)⟩, fun r150 h150 p150 => ?_⟩
        obtain ⟨rfl, rfl⟩ := p150
        refine ⟨_, ⟨_, by decide, (ct_M_say _ _)⟩, fun r154 h154 p154 => ?_⟩
        obtain ⟨rfl, rfl⟩ := p154
        exact loop5 p 0 _ _ _ (31 * sy (fun w => wdV (wBits K H (-1) 0) (nI w)) 4 z + (nxV K A (wBits K H (-1) 0)).toInt64) (by omega) rfl hf (by show 31 * x.2 + _ = _; rw [hz]; rfl) hd
      · exact absurd (by decide) c129
    | succ n ih =>
      intro i b v x z hi hb hf hz hd
      subst hb
      refine V_go C tk_M_digest [9, 19, 60, 70, 127, 159, 186] 137 ?_
      refine And.intro (fun c129 => ?_) (fun c129 => ?_)
      · exact absurd c129 (nI_ge (b := 4) (by omega) (by decide))
      · refine ⟨_, ⟨_, by decide, (ct_M_worldsOf (gr hf).1 (gh hf) hlt (nI i))⟩, fun r135 h135 p135 => ?_⟩
        obtain ⟨rfl, rfl⟩ := p135
        refine ⟨_, ⟨_, by decide, (ct_M_say _ _)⟩, fun r139 h139 p139 => ?_⟩
        obtain ⟨rfl, rfl⟩ := p139
        exact ih (i + 1) _ _ _ z (by omega) (nI_1 i) hf (by rw [hz]; rfl) hd
  have L98 : ∀ (b : Int32) (r2 : Option Value) (x : Hp), Fz P9 h x → x.2 = sbs K A (kN K) (lbs K A q3 q4 H (kL K) 877) → V X 98 [some (.ref 73), some (.int b), r2] [] x := by
    intro b r2 x hf hz
    by_cases hl0 : kL K = 0
    · skip
      refine V_go C tk_M_digest [9, 19, 60, 70, 127, 159, 186] 137 ?_
      refine ⟨_, ⟨_, by decide, (ct_M_lacksR (gr hf).1)⟩, fun r99 h99 p99 => ?_⟩
      obtain ⟨rfl, rfl⟩ := p99
      refine And.intro (fun c102 => ?_) (fun c102 => ?_)
      · exact loop5 p 0 _ _ _ (sbs K A (kN K) (lbs K A q3 q4 H (kL K) 877)) (by omega) rfl hf hz (by unfold digV mdF; rw [if_pos hl0])
      · rw [decide_eq_true hl0] at c102; exact absurd c102 (by decide)
    · have ol := osF_le K A 31
      refine V_go C tk_M_digest [9, 19, 60, 70, 127, 159, 186] 137 ?_
      refine ⟨_, ⟨_, by decide, (ct_M_lacksR (gr hf).1)⟩, fun r99 h99 p99 => ?_⟩
      obtain ⟨rfl, rfl⟩ := p99
      refine And.intro (fun c102 => ?_) (fun c102 => ?_)
      · rw [decide_eq_false hl0] at c102; exact absurd rfl c102
      · refine ⟨_, ⟨_, by decide, (ct_M_onceSet (gr hf))⟩, fun r106 h106 p106 => ?_⟩
        obtain ⟨rfl, f1⟩ := p106
        refine ⟨_, ⟨_, by decide, (ct_M_onesN rfl (by omega) _)⟩, fun r112 h112 p112 => ?_⟩
        obtain ⟨rfl, rfl⟩ := p112
        refine ⟨_, ⟨_, by decide, (ct_M_say _ _)⟩, fun r116 h116 p116 => ?_⟩
        obtain ⟨rfl, rfl⟩ := p116
        refine ⟨_, ⟨_, by decide, (ct_M_say _ _)⟩, fun r122 h122 p122 => ?_⟩
        obtain ⟨rfl, rfl⟩ := p122
        exact loop4 4 0 _ _ _ (31 * (31 * sbs K A (kN K) (lbs K A q3 q4 H (kL K) 877) + (nI (pc16 (osF K A 31))).toInt64) + (nI (osF K A 31)).toInt64) rfl rfl (hf.tr f1).sy (by show 31 * (31 * h106.2 + _) + _ = _; rw [f1.2, hz]; rfl) (by unfold digV mdF; rw [if_neg hl0])
  -- ships
  have loop3 : ∀ (n i : Nat) (b : Int32) (r2 : Option Value) (x : Hp), i + n = kN K → b = nI i → Fz P9 h x → x.2 = sbs K A i (lbs K A q3 q4 H (kL K) 877) → V X 60 [some (.ref 73), some (.int b), r2] [] x := by
    intro n
    induction n with
    | zero =>
      intro i b r2 x hi hb hf hz
      subst hb
      obtain rfl : i = kN K := by omega
      refine V_go C tk_M_digest [9, 19, 60, 70, 98, 127, 159, 186] 137 ?_
      refine And.intro (fun c65 => ?_) (fun c65 => ?_)
      · exact L98 _ _ _ hf hz
      · exact absurd (nle (gr hf).1.2.2.2.2.1.1) c65
    | succ n ih =>
      intro i b r2 x hi hb hf hz
      subst hb
      have hi3 : i < kN K := by omega
      have inner : ∀ (m w : Nat) (d : Int32) (y : Hp), w + m = 4 → d = nI w → Fz P9 h y → y.2 = sy (fun w => shipV K A i (nI w)) w (sbs K A i (lbs K A q3 q4 H (kL K) 877)) → V X 70 [some (.ref 73), some (.int (nI i)), some (.int d)] [] y := by
        intro m
        induction m with
        | zero =>
          intro w d y hw hd hfy hzy
          subst hd
          obtain rfl : w = 4 := by omega
          refine V_go C tk_M_digest [9, 19, 60, 70, 127, 159, 186] 137 ?_
          refine And.intro (fun c72 => ?_) (fun c72 => ?_)
          · exact ih (i + 1) _ _ _ (by omega) (nI_1 i) hfy hzy
          · exact absurd (by decide) c72
        | succ m ihm =>
          intro w d y hw hd hfy hzy
          subst hd
          refine V_go C tk_M_digest [9, 19, 60, 70, 127, 159, 186] 137 ?_
          refine And.intro (fun c72 => ?_) (fun c72 => ?_)
          · exact absurd c72 (nI_ge (b := 4) (by omega) (by decide))
          · refine ⟨_, ⟨_, by decide, (ct_M_tellShip (gr hfy) hi3 (nI w))⟩, fun r79 h79 p79 => ?_⟩
            obtain ⟨rfl, f1⟩ := p79
            refine ⟨_, ⟨_, by decide, (ct_M_say _ _)⟩, fun r83 h83 p83 => ?_⟩
            obtain ⟨rfl, rfl⟩ := p83
            exact ihm (w + 1) _ _ (by omega) (nI_1 w) (hfy.tr f1).sy (by show 31 * h79.2 + _ = _; rw [f1.2, hzy]; rfl)
      refine V_go C tk_M_digest [9, 19, 60, 70, 127, 159, 186] 137 ?_
      refine And.intro (fun c65 => ?_) (fun c65 => ?_)
      · exact absurd c65 (nge (by omega) (by omega) (gr hf).1.2.2.2.2.1.1)
      · exact inner 4 0 _ _ rfl rfl hf hz
  -- lights
  have loop1 : ∀ (n i : Nat) (b : Int32) (r2 : Option Value) (x : Hp), i + n = kL K → b = nI i → Fz P9 h x → x.2 = lbs K A q3 q4 H i 877 → V X 9 [some (.ref 73), some (.int b), r2] [] x := by
    intro n
    induction n with
    | zero =>
      intro i b r2 x hi hb hf hz
      subst hb
      obtain rfl : i = kL K := by omega
      refine V_go C tk_M_digest [9, 19, 60, 70, 127, 159, 186] 137 ?_
      refine And.intro (fun c14 => ?_) (fun c14 => ?_)
      · exact loop3 (kN K) 0 _ _ _ (by omega) rfl hf hz
      · exact absurd (nle (gr hf).1.1.1) c14
    | succ n ih =>
      intro i b r2 x hi hb hf hz
      subst hb
      have hi5 : i < kL K := by omega
      have inner : ∀ (m w : Nat) (d : Int32) (y : Hp), w + m = 7 → d = nI w → Fz P9 h y → y.2 = sy (fun w => tellV K A q3 q4 i (nI w)) w (lbs K A q3 q4 H i 877) → V X 19 [some (.ref 73), some (.int (nI i)), some (.int d)] [] y := by
        intro m
        induction m with
        | zero =>
          intro w d y hw hd hfy hzy
          subst hd
          obtain rfl : w = 7 := by omega
          refine V_go C tk_M_digest [9, 19, 60, 70, 127, 159, 186] 137 ?_
          refine And.intro (fun c22 => ?_) (fun c22 => ?_)
          · refine ⟨_, ⟨_, by decide, (ct_M_kindBits (gr hfy).1 (gh hfy) hlt i)⟩, fun r45 h45 p45 => ?_⟩
            obtain ⟨rfl, rfl⟩ := p45
            refine ⟨_, ⟨_, by decide, (ct_M_say _ _)⟩, fun r49 h49 p49 => ?_⟩
            obtain ⟨rfl, rfl⟩ := p49
            exact ih (i + 1) _ _ _ (by omega) (nI_1 i) hfy.sy (by show 31 * y.2 + _ = _; rw [hzy]; rfl)
          · exact absurd (by decide) c22
        | succ m ihm =>
          intro w d y hw hd hfy hzy
          subst hd
          refine V_go C tk_M_digest [9, 19, 60, 70, 127, 159, 186] 137 ?_
          refine And.intro (fun c22 => ?_) (fun c22 => ?_)
          · exact absurd c22 (nI_ge (b := 7) (by omega) (by decide))
          · refine ⟨_, ⟨_, by decide, (ct_M_tell (gr hfy) hi5 (nI w))⟩, fun r29 h29 p29 => ?_⟩
            obtain ⟨rfl, f1⟩ := p29
            refine ⟨_, ⟨_, by decide, (ct_M_say _ _)⟩, fun r33 h33 p33 => ?_⟩
            obtain ⟨rfl, rfl⟩ := p33
            exact ihm (w + 1) _ _ (by omega) (nI_1 w) (hfy.tr f1).sy (by show 31 * h29.2 + _ = _; rw [f1.2, hzy]; rfl)
      refine V_go C tk_M_digest [9, 19, 60, 70, 127, 159, 186] 137 ?_
      refine And.intro (fun c14 => ?_) (fun c14 => ?_)
      · exact absurd c14 (nge (by omega) (by omega) (gr hf).1.1.1)
      · exact inner 7 0 _ _ rfl rfl hf hz
  refine V_go C tk_M_digest [9, 19, 60, 70, 127, 159, 186] 137 ?_
  exact loop1 (kL K) 0 _ _ _ (by omega) rfl (fun _ _ _ => rfl) rfl
