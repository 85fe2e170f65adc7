/-! ===== the reference: worlds ===== -/
def allB (p : Nat → Bool) : Nat → Bool
  | 0 => true
  | k + 1 => allB p k && p k
def ofK (K : KF) (other kd : Int32) (k : Nat) : Int32 := if nI k = other then kd else nI (kK K k)
def hOk (K : KF) (H : HD) (other kd : Int32) (w i : Nat) : Bool := (sayF (ofK K other kd (dL H i)) (w.testBit (dF H i) != dT H i) (dB H i) == dY H i) || (decide (ofK K other kd (dL H i) = 2) && dY H i)
def wOk (K : KF) (H : HD) (other kd : Int32) (w : Nat) : Bool := allB (hOk K H other kd w) (dM H)
def wBits (K : KF) (H : HD) (other kd : Int32) : Nat := msk (wOk K H other kd) 16
theorem wBits_lt (K : KF) (H : HD) (other kd : Int32) : wBits K H other kd < 65536 := msk_lt _ 16
theorem bitW {w f : Nat} (hw : w < 16) (hf : f < 4) : decide (((nI w >>> (nI f &&& 31)) &&& 1) = 1) = w.testBit f := bitD hw hf
theorem ct_M_isTrueN {w f : Nat} {x : Int32} (hx : x = nI f) (hw : w < 16) (hf : f < 4) (t : Bool) (h : Hp) : Ct 0 md_M_isTrue [.int (nI w), .int x, .int (tI t)] h (ex (.int (tI (w.testBit f != t))) h) := by
  have h1 := ct_M_isTrue (nI w) (nI f) t h
  rw [bitW hw hf] at h1
  rw [hx]
  exact h1
theorem ct_M_worldBits {K : KF} {H : HD} {h : Hp} (hs : MS K h) (hr : RH 84 23 H h) (hlt : ∀ i, i < dM H → dL H i < kL K) (other kd : Int32) : Ct 1 md_M_worldBits [.ref 73, .int other, .int kd] h (ex (.int (nI (wBits K H other kd))) h) := by
  refine Ct_of 7 rfl rfl rfl (fun X C => ?_)
  obtain ⟨⟨hm, hm8⟩, hg⟩ := id hr
  have hL5 := hs.1.2
  have outer : ∀ (n w : Nat) (a b : Int32) (r5 r6 r7 r8 r9 r10 : Option Value), w + n = 16 → a = nI (msk (wOk K H other kd) w) → b = nI w → V X 5 [some (.ref 73), some (.int other), some (.int kd), some (.int a), some (.int b), r5, r6, r7, r8, r9, r10] [] h := by
    intro n
    induction n with
    | zero =>
      intro w a b r5 r6 r7 r8 r9 r10 hi ha hb
      subst hb
      obtain rfl : w = 16 := by omega
      refine V_go C tk_M_worldBits [5, 18] 132 ?_
      refine And.intro (fun c9 => ?_) (fun c9 => ?_)
      · exact ⟨by rw [ha]; rfl, rfl⟩
      · exact absurd (by decide) c9
    | succ n ih =>
      intro w a b r5 r6 r7 r8 r9 r10 hi ha hb
      subst hb
      have hw : w < 16 := by omega
      have inner : ∀ (q i : Nat) (c d : Int32) (r7 r8 r9 r10 : Option Value), i + q = dM H → c = tI (allB (hOk K H other kd w) i) → d = nI i → V X 18 [some (.ref 73), some (.int other), some (.int kd), some (.int a), some (.int (nI w)), some (.int c), some (.int d), r7, r8, r9, r10] [] h := by
        intro q
        induction q with
        | zero =>
          intro i c d r7 r8 r9 r10 hi hc hd
          subst hd
          have him : i = dM H := by omega
          subst him
          have hms : msk (wOk K H other kd) (w + 1) = msk (wOk K H other kd) w ||| (bif wOk K H other kd w then 2 ^ w else 0) := rfl
          have hwo : wOk K H other kd w = allB (hOk K H other kd w) (dM H) := rfl
          have fin : ∀ v : Int32, v = nI (bif wOk K H other kd w then 2 ^ w else 0) → V X 5 [some (.ref 73), some (.int other), some (.int kd), some (.int (a ||| v)), some (.int (nI w + 1)), some (.int c), some (.int (nI (dM H))), r7, r8, r9, r10] [] h := fun v hv => ih (w + 1) _ _ _ _ _ _ _ _ (by omega) (by rw [ha, hv, hms]; exact fa_or _ _) (nI_1 w)
          refine V_go C tk_M_worldBits [5, 18] 132 ?_
          refine And.intro (fun c24 => ?_) (fun c24 => ?_)
          · refine And.intro (fun c174 => ?_) (fun c174 => ?_)
            · rw [hc, tI_0] at c174
              exact fin _ (by rw [hwo, c174]; rfl)
            · rw [hc, tI_n] at c174
              exact fin _ (by rw [hwo, c174]; exact shl1 (by omega))
          · exact absurd (nle hm) c24
        | succ q ihq =>
          intro i c d r7 r8 r9 r10 hi hc hd
          subst hd
          have him : i < dM H := by omega
          obtain ⟨⟨g1, g2⟩, ⟨g3, g4⟩, g5, g6, g7⟩ := hg i him
          have i0 : ((5 : Int32) * nI i).toNatClampNeg = 5 * i := ix0c 5 i (by omega)
          have i1 : ((5 : Int32) * nI i + 1).toNatClampNeg = 5 * i + 1 := ixc 5 1 i (by omega)
          have i2 : ((5 : Int32) * nI i + 2).toNatClampNeg = 5 * i + 2 := ixc 5 2 i (by omega)
          have i3 : ((5 : Int32) * nI i + 3).toNatClampNeg = 5 * i + 3 := ixc 5 3 i (by omega)
          have i4 : ((5 : Int32) * nI i + 4).toNatClampNeg = 5 * i + 4 := ixc 5 4 i (by omega)
          have j0 : ((5 : Int32) * nI (dL H i)).toNatClampNeg = 5 * dL H i := ix0c 5 (dL H i) (by omega)
          have hal : allB (hOk K H other kd w) (i + 1) = (allB (hOk K H other kd w) i && hOk K H other kd w i) := rfl
          have next : ∀ (v : Int32) (r7 r8 r9 r10 : Option Value), v = tI (allB (hOk K H other kd w) i && hOk K H other kd w i) → V X 18 [some (.ref 73), some (.int other), some (.int kd), some (.int a), some (.int (nI w)), some (.int v), some (.int (nI i + 1)), r7, r8, r9, r10] [] h := fun v r7 r8 r9 r10 hv => ihq (i + 1) _ _ _ _ _ _ (by omega) (by rw [hv, hal]) (nI_1 i)
          have L116 : ∀ (o : Int32) (r10 : Option Value), o = ofK K other kd (dL H i) → V X 116 [some (.ref 73), some (.int other), some (.int kd), some (.int a), some (.int (nI w)), some (.int c), some (.int (nI i)), some (.int (nI (dL H i))), some (.int o), some (.int (tI (dY H i))), r10] [.int (tI (dT H i)), .int (nI (dF H i)), .int (nI w), .int o] h := by
            intro o r10 ho
            have hk : hOk K H other kd w i = ((sayF o (w.testBit (dF H i) != dT H i) (dB H i) == dY H i) || (decide (o = 2) && dY H i)) := by rw [ho]; rfl
            refine V_go C tk_M_worldBits [5, 18] 132 ?_
            refine ⟨_, ⟨_, by decide, (ct_M_isTrueN rfl hw g4 (dT H i) h)⟩, fun r116 h116 p116 => ?_⟩
            obtain ⟨rfl, rfl⟩ := p116
            refine And.intro ((ixin 5 3 i 40 (by omega) (by decide))) ?_
            refine ⟨_, ⟨_, by decide, (ct_M_says o (w.testBit (dF H i) != dT H i) _ h)⟩, fun r130 h130 p130 => ?_⟩
            obtain ⟨rfl, rfl⟩ := p130
            refine And.intro (fun c137 => ?_) (fun c137 => ?_)
            · refine next _ _ _ _ _ ?_
              rw [hc, tI_0] at c137
              rw [c137]
              rfl
            · refine And.intro (fun c144 => ?_) (fun c144 => ?_)
              · refine next _ _ _ _ _ ?_
                rw [hc, tI_n] at c137
                rw [i3, g6] at c144
                rw [c137, hk]
                revert c144
                cases sayF o (w.testBit (dF H i) != dT H i) (dB H i) <;> cases dY H i <;> simp [tI]
              · refine And.intro (fun c150 => ?_) (fun c150 => ?_)
                · refine next _ _ _ _ _ ?_
                  rw [i3, g6] at c144
                  rw [hk, decide_eq_false c150]
                  revert c144
                  cases sayF o (w.testBit (dF H i) != dT H i) (dB H i) <;> cases dY H i <;> simp [tI]
                · refine And.intro (fun c155 => ?_) (fun c155 => ?_)
                  · refine next _ _ _ _ _ ?_
                    rw [i3, g6] at c144
                    rw [tI_0] at c155
                    rw [hk, c155]
                    rw [c155] at c144
                    revert c144
                    cases sayF o (w.testBit (dF H i) != dT H i) (dB H i) <;> simp [tI]
                  · refine next _ _ _ _ _ ?_
                    rw [hc, tI_n] at c137
                    rw [tI_n] at c155
                    rw [c137, hk, c155, decide_eq_true c150]
                    cases sayF o (w.testBit (dF H i) != dT H i) (dB H i) <;> rfl
          have L79 : ∀ (o y : Int32) (r9 r10 : Option Value), o = ofK K other kd (dL H i) → y = tI (dY H i) → V X 79 [some (.ref 73), some (.int other), some (.int kd), some (.int a), some (.int (nI w)), some (.int c), some (.int (nI i)), some (.int (nI (dL H i))), some (.int o), r9, r10] [.int y] h := by
            intro o y r9 r10 ho hy
            subst hy
            have g5b : ∀ v : Int32, v = tI (dT H i) → V X 116 [some (.ref 73), some (.int other), some (.int kd), some (.int a), some (.int (nI w)), some (.int c), some (.int (nI i)), some (.int (nI (dL H i))), some (.int o), some (.int (tI (dY H i))), r10] [.int v, .int (h.1 84 (5 * i + 1)), .int (nI w), .int o] h := fun v hv => by
              rw [hv, g3]
              exact L116 o r10 ho
            refine V_go C tk_M_worldBits [5, 18, 116] 132 ?_
            refine And.intro ((ixin 5 1 i 40 (by omega) (by decide))) ?_
            refine And.intro ((ixin 5 2 i 40 (by omega) (by decide))) ?_
            refine And.intro (fun c108 => ?_) (fun c108 => ?_)
            · rw [i2, g5, tI_1] at c108
              rw [i1]
              exact g5b _ (by rw [eq_false_of_ne_true c108]; rfl)
            · rw [i2, g5, tI_1] at c108
              rw [i1]
              exact g5b _ (by rw [c108]; rfl)
          have L57 : ∀ (o : Int32) (r8 r9 r10 : Option Value), o = ofK K other kd (dL H i) → V X 57 [some (.ref 73), some (.int other), some (.int kd), some (.int a), some (.int (nI w)), some (.int c), some (.int (nI i)), some (.int (nI (dL H i))), r8, r9, r10] [.int o] h := by
            intro o r8 r9 r10 ho
            refine V_go C tk_M_worldBits [5, 18, 79] 132 ?_
            refine And.intro ((ixin 5 4 i 40 (by omega) (by decide))) ?_
            refine And.intro (fun c71 => ?_) (fun c71 => ?_)
            · rw [i4, g7, tI_1] at c71
              exact L79 o _ _ _ ho (by rw [eq_false_of_ne_true c71]; rfl)
            · rw [i4, g7, tI_1] at c71
              exact L79 o _ _ _ ho (by rw [c71]; rfl)
          have g1' : h.1 84 (5 * i) = nI (dL H i) := g1
          have L37 : ∀ (z : Int32) (r8 r9 r10 : Option Value), z = nI (dL H i) → V X 38 [some (.ref 73), some (.int other), some (.int kd), some (.int a), some (.int (nI w)), some (.int c), some (.int (nI i)), some (.int z), r8, r9, r10] [] h := by
            intro z r8 r9 r10 hz
            subst hz
            have hkk : h.1 76 (5 * dL H i) = nI (kK K (dL H i)) := (hs.2.2.2.1 (dL H i) (hlt i him)).1
            refine V_go C tk_M_worldBits [5, 18, 57] 132 ?_
            refine And.intro (fun c41 => ?_) (fun c41 => ?_)
            · refine And.intro ((ix0in 5 (dL H i) 25 (by omega) (by decide))) ?_
              refine L57 _ _ _ _ ?_
              rw [j0, hkk]
              unfold ofK
              rw [if_neg c41]
            · refine L57 _ _ _ _ ?_
              unfold ofK
              rw [if_pos c41]
          refine V_go C tk_M_worldBits [5, 18, 38] 132 ?_
          refine And.intro (fun c24 => ?_) (fun c24 => ?_)
          · exact absurd c24 (nge (by omega) (by omega) hm)
          · refine And.intro ((ix0in 5 i 40 (by omega) (by decide))) ?_
            exact L37 _ _ _ _ (by rw [i0]; exact g1')
      refine V_go C tk_M_worldBits [5, 18] 132 ?_
      refine And.intro (fun c9 => ?_) (fun c9 => ?_)
      · exact absurd c9 (nI_ge (b := 16) (by omega) (by decide))
      · exact inner (dM H) 0 _ _ _ _ _ _ (by omega) rfl rfl
  refine V_go C tk_M_worldBits [5, 18] 132 ?_
  exact outer 16 0 _ _ _ _ _ _ _ _ rfl rfl rfl
