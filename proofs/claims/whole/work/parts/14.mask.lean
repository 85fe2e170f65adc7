/-- what a light says when asked: yes, unless .. -/
def ansY (K : KF) (A : AS) (F k f : Nat) (t : Bool) : Bool := sayF (nI (kK K k)) (F.testBit f != t) (aB A) || (decide (kK K k = 2) && !(mayGo K A k))
def ansA (K : KF) (A : AS) (k : Nat) (yes : Bool) : AS := (fun j => if j = k then (bif yes then 0 else kD K) else aD A j, aP A, aQ A, aB A)
theorem bitD {F f : Nat} (hF : F < 16) (hf : f < 4) : decide (((nI F >>> (nI f &&& 31)) &&& 1) = 1) = F.testBit f := by
  have h1 := bitAt1 (m := F) (k := f) (by omega) (by omega)
  cases hb : F.testBit f with
  | true => rw [decide_eq_true_iff, h1]; exact hb
  | false => rw [decide_eq_false_iff_not, h1, hb]; decide
theorem ct_M_saysE {kd : Nat} {t : Bool} {br : Int32} {x y : Int32} (hx : x = nI kd) (h : Hp) : Ct 0 md_M_says [.int x, .int (tI t), .int y] h (ex (.int (tI (sayF (nI kd) t y))) h) := by
  subst hx
  exact ct_M_says (nI kd) t y h
theorem ct_M_answers {K : KF} {A : AS} {F : Nat} {h : Hp} (hs : MS K h) (hx : MX K A h) (hF : h.1 73 10 = nI F) (hF16 : F < 16) {k f : Nat} (hk : k < kL K) (hf : f < 4) (t : Bool) : Ct 5 md_M_answers [.ref 73, .int (nI k), .int (nI f), .int (tI t)] h (fun r h' => r = some (.int (tI (ansY K A F k f t))) ∧ MX K (ansA K A k (ansY K A F k f t)) h' ∧ Fr P9 h h') := by
  refine Ct_of 7 rfl rfl rfl (fun X C => ?_)
  obtain ⟨⟨hL, hL5⟩, -, ⟨hD, hD9⟩, hk4, -, -⟩ := id hs
  obtain ⟨b1, b2, -, -⟩ := hk4 k hk
  have b1' : h.1 76 (5 * k) = nI (kK K k) := b1
  have i0 : ((5 : Int32) * nI k).toNatClampNeg = 5 * k := ix0c 5 k (by omega)
  have e3 := nIc (i := k) (by omega)
  have et : (decide (((h.1 73 10 >>> (nI f &&& 31)) &&& 1) = 1) != t) = (F.testBit f != t) := by rw [hF, bitD hF16 hf]
  have ek2 : nI (kK K k) = 2 ↔ kK K k = 2 := nI_eq (b := 2) (by omega) (by decide)
  -- the end, once yes is known
  have fin : ∀ (hh : Hp) (y : Bool) (v : Int32), MX K A hh → Fr P8 h hh → y = ansY K A F k f t → v = nI (bif y then 0 else kD K) → MX K (ansA K A k (ansY K A F k f t)) (up2 hh.1 78 k v, hh.2) ∧ Fr P9 h (up2 hh.1 78 k v, hh.2) := by
    intro hh y v m1 f1 hy hv
    subst hy
    refine ⟨⟨fun j hj => ?_, fun s hs => ?_, ?_⟩, (f1.mono (Q := P9) (fun _ _ h9 => Or.inr h9)).up (by unfold P9 P7; omega)⟩
    · show up2 hh.1 78 k v 78 j = nI (if j = k then (bif ansY K A F k f t then 0 else kD K) else aD A j) ∧ (if j = k then (bif ansY K A F k f t then 0 else kD K) else aD A j) ≤ 9
      by_cases hjk : j = k
      · subst hjk
        rw [up2_s, if_pos rfl]
        refine ⟨hv, ?_⟩
        cases ansY K A F j f t <;> simp <;> omega
      · rw [up2_b _ _ _ _ hjk, if_neg hjk]
        exact m1.1 j hj
    · have := m1.2.1 s hs
      simp [up2]
      exact this
    · have := m1.2.2
      simp [up2]
      exact this
  have hsay : sayF (nI (kK K k)) (decide (((h.1 73 10 >>> (nI f &&& 31)) &&& 1) = 1) != t) (h.1 73 19) = sayF (nI (kK K k)) (F.testBit f != t) (aB A) := by rw [et, hx.2.2]
  refine V_go C tk_M_answers [] 62 ?_
  refine And.intro ((ix0in 5 k 25 (by omega) (by decide))) ?_
  refine ⟨_, ⟨_, by decide, (ct_M_isTrue (h.1 73 10) (nI f) t h)⟩, fun r18 h18 p18 => ?_⟩
  obtain ⟨rfl, rfl⟩ := p18
  refine ⟨_, ⟨_, by decide, (ct_M_saysE (kd := kK K k) (br := 0) (by rw [i0]; exact b1') h)⟩, fun r25 h25 p25 => ?_⟩
  obtain ⟨rfl, rfl⟩ := p25
  refine And.intro (fun c32 => ?_) (fun c32 => ?_)
  · refine And.intro (fun c63 => ?_) (fun c63 => ?_)
    · refine And.intro ((inn (by omega) (by decide))) ?_
      exact absurd c63 (by decide)
    · refine And.intro ((inn (by omega) (by decide))) ?_
      rw [hsay, tI_n] at c32
      have hy : ansY K A F k f t = true := by unfold ansY; rw [c32]; rfl
      rw [e3]
      exact ⟨by decide, by rw [hy]; rfl, fin h true _ hx Fr.rf hy.symm rfl⟩
  · refine And.intro (fun c38 => ?_) (fun c38 => ?_)
    · refine And.intro (fun c63 => ?_) (fun c63 => ?_)
      · refine And.intro ((inn (by omega) (by decide))) ?_
        rw [hsay, tI_0] at c32
        rw [i0, b1', ek2] at c38
        have hy : ansY K A F k f t = false := by unfold ansY; rw [c32, decide_eq_false c38]; rfl
        rw [e3]
        exact ⟨by decide, by rw [hy]; rfl, fin h false _ hx Fr.rf hy.symm hD⟩
      · refine And.intro ((inn (by omega) (by decide))) ?_
        exact absurd rfl c63
    · refine ⟨_, ⟨_, by decide, (ct_M_mayGo hs hx hk)⟩, fun r43 h43 p43 => ?_⟩
      obtain ⟨rfl, f1⟩ := p43
      refine And.intro (fun c46 => ?_) (fun c46 => ?_)
      · refine And.intro (fun c63 => ?_) (fun c63 => ?_)
        · refine And.intro ((inn (by omega) (by decide))) ?_
          rw [hsay, tI_0] at c32
          rw [tI_n] at c46
          have hy : ansY K A F k f t = false := by unfold ansY; rw [c32, c46, Bool.not_true, Bool.and_false]; rfl
          rw [e3]
          exact ⟨by decide, by rw [hy]; rfl, fin h43 false _ (hx.f8 f1) f1 hy.symm (hs.f8 f1).2.2.1.1⟩
        · refine And.intro ((inn (by omega) (by decide))) ?_
          exact absurd rfl c63
      · refine And.intro (fun c63 => ?_) (fun c63 => ?_)
        · refine And.intro ((inn (by omega) (by decide))) ?_
          exact absurd c63 (by decide)
        · refine And.intro ((inn (by omega) (by decide))) ?_
          rw [hsay, tI_0] at c32
          rw [tI_0] at c46
          rw [i0, b1', ek2] at c38
          have hy : ansY K A F k f t = true := by unfold ansY; rw [c32, c46, decide_eq_true c38]; rfl
          rw [e3]
          exact ⟨by decide, by rw [hy]; rfl, fin h43 true _ (hx.f8 f1) f1 hy.symm rfl⟩
def askV (K : KF) (A : AS) (F : Nat) (k f : Int32) (t : Bool) : Int32 := if inR k (kL K) && inR f 4 then (if aD A k.toNatClampNeg = 0 then tI (ansY K A F k.toNatClampNeg f.toNatClampNeg t) else -103) else -101
/-- whether it is asked, indeed -/
def askQ (K : KF) (A : AS) (k f : Int32) : Bool := inR k (kL K) && inR f 4 && decide (aD A k.toNatClampNeg = 0)
def askA (K : KF) (A : AS) (F : Nat) (k f : Int32) (t : Bool) : AS := bif askQ K A k f then ansA K A k.toNatClampNeg (ansY K A F k.toNatClampNeg f.toNatClampNeg t) else A
def ask3 (K : KF) (A : AS) (q3 : Nat → Int32) (k f : Int32) : Nat → Int32 := fun j => if askQ K A k f && decide (j = k.toNatClampNeg) then q3 j + 1 else q3 j
def ask4 (K : KF) (A : AS) (F : Nat) (q4 : Nat → Int32) (k f : Int32) (t : Bool) : Nat → Int32 := fun j => if askQ K A k f && decide (j = k.toNatClampNeg) && !(ansY K A F k.toNatClampNeg f.toNatClampNeg t) then q4 j + 1 else q4 j
theorem RN.f9 {K : KF} {A : AS} {q3 q4 : Nat → Int32} {F : Nat} {h h' : Hp} (a : RN K A q3 q4 F h) (f : Fr P9 h h') : RN K A q3 q4 F h' := by
  obtain ⟨a1, ⟨d1, d2, d3⟩, a3, a4, a5⟩ := a
  have e : ∀ i j, (i = 76 ∨ i = 77 ∨ (i = 73 ∧ (j = 10 ∨ j = 11))) → h'.1 i j = h.1 i j := fun i j hq => f.1 i j (fun hn => by unfold P9 P7 P8 at hn; omega)
  refine ⟨a1.f9 f, ⟨fun k hk => ?_, fun s hs => ?_, ?_⟩, fun k hk => ?_, ?_, a5⟩
  · rw [e _ _ (by omega)]; exact d1 k hk
  · rw [e _ _ (by omega), e _ _ (by omega)]; exact d2 s hs
  · rw [e _ _ (by omega)]; exact d3
  · rw [e _ _ (by omega), e _ _ (by omega)]; exact a3 k hk
  · rw [e _ _ (by omega)]; exact a4
theorem ct_M_ask {K : KF} {A : AS} {q3 q4 : Nat → Int32} {F : Nat} {h : Hp} (hr : RN K A q3 q4 F h) (k f : Int32) (t : Bool) : Ct 6 md_M_ask [.ref 73, .int k, .int f, .int (tI t)] h (fun r h' => r = some (.int (askV K A F k f t)) ∧ RN K (askA K A F k f t) (ask3 K A q3 k f) (ask4 K A F q4 k f t) F h' ∧ Fr PN h h') := by
  refine Ct_of 7 rfl rfl rfl (fun X C => ?_)
  have out : askQ K A k f = false → askA K A F k f t = A ∧ ask3 K A q3 k f = q3 ∧ ask4 K A F q4 k f t = q4 := by
    intro hq
    refine ⟨by unfold askA; rw [hq]; rfl, ?_, ?_⟩
    · funext j; unfold ask3; rw [hq]; rfl
    · funext j; unfold ask4; rw [hq]; rfl
  cases hin : inR k (kL K) with
  | false =>
    obtain ⟨o1, o2, o3⟩ := out (by unfold askQ; rw [hin]; rfl)
    rw [o1, o2, o3] at C
    refine V_go C tk_M_ask [] 89 ?_
    refine ⟨_, ⟨_, by decide, (ct_M_isLightR hr.1 k)⟩, fun r2 h2 p2 => ?_⟩
    obtain ⟨rfl, rfl⟩ := p2
    refine And.intro (fun c5 => ?_) (fun c5 => ?_)
    · exact ⟨by unfold askV; rw [hin]; rfl, hr, Fr.rf⟩
    · rw [hin] at c5; exact absurd rfl c5
  | true =>
  cases hif : inR f 4 with
  | false =>
    obtain ⟨o1, o2, o3⟩ := out (by unfold askQ; rw [hif, Bool.and_false]; rfl)
    rw [o1, o2, o3] at C
    refine V_go C tk_M_ask [] 89 ?_
    refine ⟨_, ⟨_, by decide, (ct_M_isLightR hr.1 k)⟩, fun r2 h2 p2 => ?_⟩
    obtain ⟨rfl, rfl⟩ := p2
    refine And.intro (fun c5 => ?_) (fun c5 => ?_)
    · rw [hin] at c5; exact absurd c5 (by decide)
    · refine ⟨_, ⟨_, by decide, (ct_M_isFactR f h)⟩, fun r9 h9 p9 => ?_⟩
      obtain ⟨rfl, rfl⟩ := p9
      refine And.intro (fun c12 => ?_) (fun c12 => ?_)
      · rw [hif] at c12; exact absurd rfl c12
      · exact ⟨by unfold askV; rw [hif, Bool.and_false]; rfl, hr, Fr.rf⟩
  | true =>
  obtain ⟨j, hj, rfl⟩ := inR_t hin
  obtain ⟨g, hg, rfl⟩ := inR_t hif
  have hL5 : kL K ≤ 5 := hr.1.1.2
  have ej := nIc (i := j) (by omega)
  have eg := nIc (i := g) (by omega)
  by_cases hd0 : aD A j = 0
  · have hq : askQ K A (nI j) (nI g) = true := by unfold askQ; rw [hin, hif, ej, decide_eq_true hd0]; rfl
    have ev : askV K A F (nI j) (nI g) t = tI (ansY K A F j g t) := by unfold askV; rw [hin, hif, ej, eg, if_pos hd0]; rfl
    have eA : askA K A F (nI j) (nI g) t = ansA K A j (ansY K A F j g t) := by unfold askA; rw [hq, ej, eg]; rfl
    have i2 : ((5 : Int32) * nI j + 2).toNatClampNeg = 5 * j + 2 := ixc 5 2 j (by omega)
    have i3 : ((5 : Int32) * nI j + 3).toNatClampNeg = 5 * j + 3 := ixc 5 3 j (by omega)
    have i4 : ((5 : Int32) * nI j + 4).toNatClampNeg = 5 * j + 4 := ixc 5 4 j (by omega)
    -- the rows written
    have fin : ∀ (hh : Hp) (w : Int32), MX K (ansA K A j (ansY K A F j g t)) hh → Fr P9 h hh → w = (if !(ansY K A F j g t) then q4 j + 1 else q4 j) → RN K (askA K A F (nI j) (nI g) t) (ask3 K A q3 (nI j) (nI g)) (ask4 K A F q4 (nI j) (nI g) t) F (up2 (up2 (up2 hh.1 76 (5 * j + 2) (hh.1 78 j)) 76 (5 * j + 3) (q3 j + 1)) 76 (5 * j + 4) w, hh.2) ∧ Fr PN h (up2 (up2 (up2 hh.1 76 (5 * j + 2) (hh.1 78 j)) 76 (5 * j + 3) (q3 j + 1)) 76 (5 * j + 4) w, hh.2) := by
      intro hh w m1 f1 hw
      obtain ⟨⟨s1, s2, s3, s4, s5, s6⟩, ⟨d1, d2, d3⟩, a3, a4, a5⟩ := hr.f9 f1
      have hne : ∀ k c : Nat, k ≠ j → c < 5 → 5 * k + c ≠ 5 * j + 2 ∧ 5 * k + c ≠ 5 * j + 3 ∧ 5 * k + c ≠ 5 * j + 4 := fun k c hk hc => ⟨by omega, by omega, by omega⟩
      rw [eA]
      refine ⟨⟨⟨by simp [up2]; exact s1, by simp [up2]; exact s2, by simp [up2]; exact s3, fun k hk => ?_, by simp [up2]; exact s5, fun s hs => by have := s6 s hs; simp [up2]; exact this⟩, ⟨fun k hk => ?_, fun s hs => by have := d2 s hs; simp [up2]; exact this, by simp [up2]; exact d3⟩, fun k hk => ?_, by simp [up2]; exact a4, a5⟩, ((f1.n9.up (by unfold PN; omega)).up (by unfold PN; omega)).up (by unfold PN; omega)⟩
      · have := s4 k hk
        show up2 (up2 (up2 hh.1 76 (5 * j + 2) (hh.1 78 j)) 76 (5 * j + 3) (q3 j + 1)) 76 (5 * j + 4) w 76 (5 * k + 0) = _ ∧ _ ∧ up2 (up2 (up2 hh.1 76 (5 * j + 2) (hh.1 78 j)) 76 (5 * j + 3) (q3 j + 1)) 76 (5 * j + 4) w 76 (5 * k + 1) = _ ∧ _
        rw [up2_b _ _ _ _ (by omega), up2_b _ _ _ _ (by omega), up2_b _ _ _ _ (by omega), up2_b _ _ _ _ (by omega), up2_b _ _ _ _ (by omega), up2_b _ _ _ _ (by omega)]
        exact this
      · show up2 (up2 (up2 hh.1 76 (5 * j + 2) (hh.1 78 j)) 76 (5 * j + 3) (q3 j + 1)) 76 (5 * j + 4) w 76 (5 * k + 2) = _ ∧ _
        rw [up2_b _ _ _ _ (by omega), up2_b _ _ _ _ (by omega)]
        by_cases hkj : k = j
        · subst hkj
          rw [up2_s]
          exact m1.1 k hk
        · rw [up2_b _ _ _ _ (by omega)]
          have : aD (ansA K A j (ansY K A F j g t)) k = aD A k := by show (if k = j then _ else aD A k) = _; rw [if_neg hkj]
          rw [this]
          exact d1 k hk
      · show up2 (up2 (up2 hh.1 76 (5 * j + 2) (hh.1 78 j)) 76 (5 * j + 3) (q3 j + 1)) 76 (5 * j + 4) w 76 (5 * k + 3) = _ ∧ up2 (up2 (up2 hh.1 76 (5 * j + 2) (hh.1 78 j)) 76 (5 * j + 3) (q3 j + 1)) 76 (5 * j + 4) w 76 (5 * k + 4) = _
        unfold ask3 ask4
        rw [hq, ej, eg]
        by_cases hkj : k = j
        · subst hkj
          rw [up2_b _ _ _ _ (by omega), up2_s, up2_s]
          simp [hw]
        · rw [up2_b _ _ _ _ (by omega), up2_b _ _ _ _ (by omega), up2_b _ _ _ _ (by omega), up2_b _ _ _ _ (by omega), up2_b _ _ _ _ (by omega), up2_b _ _ _ _ (by omega)]
          simp [hkj]
          exact a3 k hk
    refine V_go C tk_M_ask [] 89 ?_
    refine ⟨_, ⟨_, by decide, (ct_M_isLightR hr.1 (nI j))⟩, fun r2 h2 p2 => ?_⟩
    obtain ⟨rfl, rfl⟩ := p2
    refine And.intro (fun c5 => ?_) (fun c5 => ?_)
    · rw [hin] at c5; exact absurd c5 (by decide)
    · refine ⟨_, ⟨_, by decide, (ct_M_isFactR (nI g) h)⟩, fun r9 h9 p9 => ?_⟩
      obtain ⟨rfl, rfl⟩ := p9
      refine And.intro (fun c12 => ?_) (fun c12 => ?_)
      · refine ⟨_, ⟨_, by decide, (ct_M_asItIs hr.1 hr.2.1)⟩, fun r19 h19 p19 => ?_⟩
        obtain ⟨rfl, x1, f1⟩ := p19
        refine ⟨_, ⟨_, by decide, (ct_M_isLit (k := j) (by omega) h19)⟩, fun r24 h24 p24 => ?_⟩
        obtain ⟨rfl, rfl⟩ := p24
        refine And.intro (fun c27 => ?_) (fun c27 => ?_)
        · refine ⟨_, ⟨_, by decide, (ct_M_answers (hr.1.f7 f1) x1 (by rw [f1.1 73 10 (by unfold P7; omega)]; exact hr.2.2.2.1) hr.2.2.2.2 hj hg t)⟩, fun r37 h37 p37 => ?_⟩
          obtain ⟨rfl, x2, f2⟩ := p37
          have f3 : Fr P9 h h37 := (f1.mono (fun _ _ h9 => Or.inl h9)).tr f2
          have r3 : h37.1 76 (5 * j + 3) = q3 j ∧ h37.1 76 (5 * j + 4) = q4 j := (hr.f9 f3).2.2.1 j hj
          have r3a : up2 h37.1 76 (5 * j + 2) (h37.1 78 j) 76 (5 * j + 3) = q3 j := by rw [up2_b _ _ _ _ (by omega)]; exact r3.1
          have r4a : up2 (up2 h37.1 76 (5 * j + 2) (h37.1 78 j)) 76 (5 * j + 3) (q3 j + 1) 76 (5 * j + 4) = q4 j := by rw [up2_b _ _ _ _ (by omega), up2_b _ _ _ _ (by omega)]; exact r3.2
          refine And.intro ((inn (by omega) (by decide))) ?_
          refine And.intro ((ixin 5 2 j 25 (by omega) (by decide))) ?_
          refine And.intro ((ixin 5 3 j 25 (by omega) (by decide))) ?_
          refine And.intro ((ixin 5 3 j 25 (by omega) (by decide))) ?_
          refine And.intro ((ixin 5 4 j 25 (by omega) (by decide))) ?_
          refine And.intro (fun c85 => ?_) (fun c85 => ?_)
          · refine And.intro ((ixin 5 4 j 25 (by omega) (by decide))) ?_
            refine And.intro (fun c97 => ?_) (fun c97 => ?_)
            · rw [tI_0] at c85
              rw [i2, i3, i4, ej]
              refine ⟨by rw [ev, c85]; rfl, ?_⟩
              have q := fin h37 (q4 j + 1) x2 f3 (by rw [c85]; rfl)
              dsimp only
              rw [r3a, r4a]
              exact q
            · exact absurd c85 c97
          · refine And.intro ((ixin 5 4 j 25 (by omega) (by decide))) ?_
            refine And.intro (fun c97 => ?_) (fun c97 => ?_)
            · exact absurd c97 c85
            · rw [tI_n] at c85
              rw [i2, i3, i4, ej]
              refine ⟨by rw [ev, c85]; rfl, ?_⟩
              have q := fin h37 (q4 j + 0) x2 f3 (by rw [c85]; simp)
              dsimp only
              rw [r3a, r4a]
              exact q
        · rw [(x1.1 j hj).1, hd0] at c27; exact absurd c27 (by decide)
      · rw [hif] at c12; exact absurd c12 (by decide)
  · have hq : askQ K A (nI j) (nI g) = false := by unfold askQ; rw [ej, decide_eq_false hd0, Bool.and_false]
    have ev : askV K A F (nI j) (nI g) t = -103 := by unfold askV; rw [hin, hif, ej, if_neg hd0]; rfl
    obtain ⟨o1, o2, o3⟩ := out hq
    rw [o1, o2, o3] at C
    refine V_go C tk_M_ask [] 89 ?_
    refine ⟨_, ⟨_, by decide, (ct_M_isLightR hr.1 (nI j))⟩, fun r2 h2 p2 => ?_⟩
    obtain ⟨rfl, rfl⟩ := p2
    refine And.intro (fun c5 => ?_) (fun c5 => ?_)
    · rw [hin] at c5; exact absurd c5 (by decide)
    · refine ⟨_, ⟨_, by decide, (ct_M_isFactR (nI g) h)⟩, fun r9 h9 p9 => ?_⟩
      obtain ⟨rfl, rfl⟩ := p9
      refine And.intro (fun c12 => ?_) (fun c12 => ?_)
      · refine ⟨_, ⟨_, by decide, (ct_M_asItIs hr.1 hr.2.1)⟩, fun r19 h19 p19 => ?_⟩
        obtain ⟨rfl, x1, f1⟩ := p19
        refine ⟨_, ⟨_, by decide, (ct_M_isLit (k := j) (by omega) h19)⟩, fun r24 h24 p24 => ?_⟩
        obtain ⟨rfl, rfl⟩ := p24
        refine And.intro (fun c27 => ?_) (fun c27 => ?_)
        · rw [tI_n, decide_eq_true_iff, (x1.1 j hj).1, nI_eq0 (by have := (x1.1 j hj).2; omega)] at c27; exact absurd c27 hd0
        · exact ⟨by rw [ev], hr.f9 (f1.mono (fun _ _ h9 => Or.inl h9)), f1.n7⟩
      · rw [hif] at c12; exact absurd c12 (by decide)
