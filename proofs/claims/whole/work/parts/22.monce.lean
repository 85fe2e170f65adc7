theorem wb_lt2 {a b : Nat} (h : a < b) : 2 ^ a < 2 ^ b := Nat.pow_lt_pow_right (by decide) h
theorem wb_tb (n : Nat) : (lN n).toBitVec = BitVec.ofNat 64 n := rfl
theorem wb_inj {a b : Int64} (h : a.toBitVec = b.toBitVec) : a = b := Int64.toBitVec_inj.mp h
theorem wb_tn {n : Nat} (h : n < 2 ^ 64) : (lN n).toBitVec.toNat = n := by rw [wb_tb, BitVec.toNat_ofNat, Nat.mod_eq_of_lt h]
theorem wb_of (x : Int64) : ∃ n, n < 2 ^ 64 ∧ x = lN n := ⟨x.toBitVec.toNat, x.toBitVec.isLt, wb_inj (by rw [wb_tb]; simp)⟩
theorem wb_and {a b : Nat} (ha : a < 2 ^ 64) (hb : b < 2 ^ 64) : lN a &&& lN b = lN (a &&& b) := by
  apply wb_inj
  rw [Int64.toBitVec_and, wb_tb, wb_tb, wb_tb]
  apply BitVec.eq_of_toNat_eq
  rw [BitVec.toNat_and, BitVec.toNat_ofNat, BitVec.toNat_ofNat, BitVec.toNat_ofNat, Nat.mod_eq_of_lt ha, Nat.mod_eq_of_lt hb, Nat.mod_eq_of_lt (Nat.and_lt_two_pow _ hb)]
theorem wb_mask {n k : Nat} (hn : n < 2 ^ 64) (hk : k < 64) : lN n &&& lN (2 ^ k - 1) = lN (n % 2 ^ k) := by
  rw [wb_and hn (by have := wb_lt2 hk; omega), Nat.and_two_pow_sub_one_eq_mod]
/-! ===== the reference: at once, nights ===== -/
def sub (s m : Nat) : Bool := decide (s &&& (65535 ^^^ m) = 0)
def osF (K : KF) (A : AS) : Nat → Nat
  | 0 => 0
  | n + 1 => if sub (n + 1) (msk (litA A) (kL K)) && decide (pc16 (osF K A n) < pc16 (n + 1)) && decide (lostBy K A (n + 1) ≤ lostBy K A 0) then n + 1 else osF K A n
theorem osF_le (K : KF) (A : AS) : ∀ n, osF K A n ≤ n
  | 0 => Nat.le_refl 0
  | n + 1 => by
    unfold osF
    split
    · exact Nat.le_refl _
    · exact Nat.le_succ_of_le (osF_le K A n)
theorem ct_M_onceSet {K : KF} {A : AS} {q3 q4 : Nat → Int32} {F : Nat} {h : Hp} (hr : RN K A q3 q4 F h) : Ct 4 md_M_onceSet [.ref 73] h (fun r h' => r = some (.int (nI (osF K A 31))) ∧ Fr P9 h h') := by
  refine Ct_of 7 rfl rfl rfl (fun X C => ?_)
  have hL5 := hr.1.1.2
  have hD9 := hr.1.2.2.1.2
  have hN3 := hr.1.2.2.2.2.1.2
  have hml : msk (litA A) (kL K) < 65536 := Nat.lt_of_lt_of_le (msk_lt _ _) (Nat.pow_le_pow_right (n := 2) (i := kL K) (j := 16) (by decide) (by omega))
  have l0 := lostBy_le K A 0 hD9 hN3
  have loop2 : ∀ (n i : Nat) (x y : Int32) (r5 : Option Value) (hh : Hp), i + n = 31 → x = nI (osF K A i) → y = nI (i + 1) → MS K hh → MX K A hh → Fr P9 h hh → V X 51 [some (.ref 73), some (.int (nI (msk (litA A) (kL K)))), some (.int (nI (lostBy K A 0))), some (.int x), some (.int y), r5] [] hh := by
    intro n
    induction n with
    | zero =>
      intro i x y r5 hh hi hx hy hs hxx hf
      subst hy
      obtain rfl : i = 31 := by omega
      refine V_go C tk_M_onceSet [8, 51] 85 ?_
      refine And.intro (fun c55 => ?_) (fun c55 => ?_)
      · exact ⟨by rw [hx], hf⟩
      · exact absurd (by decide) c55
    | succ n ih =>
      intro i x y r5 hh hi hx hy hs hxx hf
      subst hx
      subst hy
      have ol := osF_le K A i
      have ean := and_not (b := i + 1) (y := msk (litA A) (kL K)) (by omega) hml
      have e0 : nI ((i + 1) &&& (65535 ^^^ msk (litA A) (kL K))) = 0 ↔ (i + 1) &&& (65535 ^^^ msk (litA A) (kL K)) = 0 := nI_eq0 (by have : (i + 1) &&& (65535 ^^^ msk (litA A) (kL K)) ≤ i + 1 := Nat.and_le_left; omega)
      have p1 := pc16_le (i + 1)
      have p2 := pc16_le (osF K A i)
      have l1 := lostBy_le K A (i + 1) hD9 hN3
      have eo : osF K A (i + 1) = if sub (i + 1) (msk (litA A) (kL K)) && decide (pc16 (osF K A i) < pc16 (i + 1)) && decide (lostBy K A (i + 1) ≤ lostBy K A 0) then i + 1 else osF K A i := rfl
      have L84 : ∀ t : Int32, t = tI (sub (i + 1) (msk (litA A) (kL K)) && decide (pc16 (osF K A i) < pc16 (i + 1))) → V X 84 [some (.ref 73), some (.int (nI (msk (litA A) (kL K)))), some (.int (nI (lostBy K A 0))), some (.int (nI (osF K A i))), some (.int (nI (i + 1))), r5] [.int t] hh := by
        intro t ht
        subst ht
        refine V_go C tk_M_onceSet [8, 51] 85 ?_
        refine And.intro (fun c88 => ?_) (fun c88 => ?_)
        · rw [tI_0] at c88
          exact ih (i + 1) _ _ _ _ (by omega) (by rw [eo, c88]; rfl) (nI_1 (i + 1)) hs hxx hf
        · refine ⟨_, ⟨_, by decide, (ct_M_lostBy hs hxx (set := i + 1) (by omega))⟩, fun r94 h94 p94 => ?_⟩
          obtain ⟨rfl, f1⟩ := p94
          refine And.intro (fun c98 => ?_) (fun c98 => ?_)
          · have hn : ¬ lostBy K A (i + 1) ≤ lostBy K A 0 := fun h9 => absurd c98 (nI_nlt h9 (by omega))
            exact ih (i + 1) _ _ _ _ (by omega) (by rw [eo, decide_eq_false hn, Bool.and_false]; rfl) (nI_1 (i + 1)) (hs.f8 f1) (hxx.f8 f1) (hf.tr (f1.mono (fun _ _ h9 => Or.inr h9)))
          · rw [tI_n] at c88
            have hn : lostBy K A (i + 1) ≤ lostBy K A 0 := Nat.le_of_not_lt (fun h9 => c98 (nI_lt h9 (by omega)))
            exact ih (i + 1) _ _ _ _ (by omega) (by rw [eo, c88, decide_eq_true hn]; rfl) (nI_1 (i + 1)) (hs.f8 f1) (hxx.f8 f1) (hf.tr (f1.mono (fun _ _ h9 => Or.inr h9)))
      refine V_go C tk_M_onceSet [8, 51, 84] 85 ?_
      refine And.intro (fun c55 => ?_) (fun c55 => ?_)
      · exact absurd c55 (nI_ge (b := 32) (by omega) (by decide))
      · refine And.intro (fun c64 => ?_) (fun c64 => ?_)
        · rw [ean, e0] at c64
          exact L84 _ (by unfold sub; rw [decide_eq_false c64]; rfl)
        · refine ⟨_, ⟨_, by decide, (ct_M_onesN rfl (by omega) hh)⟩, fun r69 h69 p69 => ?_⟩
          obtain ⟨rfl, rfl⟩ := p69
          refine ⟨_, ⟨_, by decide, (ct_M_onesN rfl (by omega) hh)⟩, fun r73 h73 p73 => ?_⟩
          obtain ⟨rfl, rfl⟩ := p73
          refine And.intro (fun c76 => ?_) (fun c76 => ?_)
          · have hn : ¬ pc16 (osF K A i) < pc16 (i + 1) := fun h9 => absurd c76 (nI_ge h9 (by omega))
            exact L84 _ (by rw [decide_eq_false hn, Bool.and_false]; rfl)
          · rw [ean, e0] at c64
            have hn : pc16 (osF K A i) < pc16 (i + 1) := Nat.lt_of_not_le (fun h9 => c76 (nI_le h9 (by omega)))
            exact L84 _ (by unfold sub; rw [decide_eq_true c64, decide_eq_true hn]; rfl)
  have loop1 : ∀ (n i : Nat) (x y : Int32) (r3 r4 r5 : Option Value) (hh : Hp), i + n = kL K → x = nI (msk (litA A) i) → y = nI i → MS K hh → MX K A hh → Fr P9 h hh → V X 8 [some (.ref 73), some (.int x), some (.int y), r3, r4, r5] [] hh := by
    intro n
    induction n with
    | zero =>
      intro i x y r3 r4 r5 hh hi hx hy hs hxx hf
      subst hy
      have hi' : i = kL K := by omega
      subst hi'
      subst hx
      refine V_go C tk_M_onceSet [8, 51] 85 ?_
      refine And.intro (fun c13 => ?_) (fun c13 => ?_)
      · refine ⟨_, ⟨_, by decide, (ct_M_lostBy hs hxx (set := 0) (by decide))⟩, fun r42 h42 p42 => ?_⟩
        obtain ⟨rfl, f1⟩ := p42
        exact loop2 31 0 _ _ _ _ rfl rfl rfl (hs.f8 f1) (hxx.f8 f1) (hf.tr (f1.mono (fun _ _ h9 => Or.inr h9)))
      · exact absurd (nle hs.1.1) c13
    | succ n ih =>
      intro i x y r3 r4 r5 hh hi hx hy hs hxx hf
      subst hy
      have e0 : decide (hh.1 78 i = 0) = litA A i := by
        unfold litA
        apply decide_eq_decide.mpr
        rw [(hxx.1 i (by omega)).1]
        exact nI_eq0 (by have := (hxx.1 i (by omega)).2; omega)
      have em : msk (litA A) (i + 1) = msk (litA A) i ||| (bif litA A i then 2 ^ i else 0) := rfl
      refine V_go C tk_M_onceSet [8, 51] 85 ?_
      refine And.intro (fun c13 => ?_) (fun c13 => ?_)
      · exact absurd c13 (nge (by omega) (by omega) hs.1.1)
      · refine ⟨_, ⟨_, by decide, (ct_M_isLit (k := i) (by omega) hh)⟩, fun r19 h19 p19 => ?_⟩
        obtain ⟨rfl, rfl⟩ := p19
        refine And.intro (fun c22 => ?_) (fun c22 => ?_)
        · rw [e0, tI_0] at c22
          exact ih (i + 1) _ _ _ _ _ _ (by omega) (by rw [hx, em, c22]; exact fa_or _ 0) (nI_1 i) hs hxx hf
        · rw [e0, tI_n] at c22
          exact ih (i + 1) _ _ _ _ _ _ (by omega) (by rw [hx, em, c22, shl1 (by omega)]; exact fa_or _ _) (nI_1 i) hs hxx hf
  refine V_go C tk_M_onceSet [8, 51] 85 ?_
  refine ⟨_, ⟨_, by decide, (ct_M_asItIs hr.1 hr.2.1)⟩, fun r1 h1 p1 => ?_⟩
  obtain ⟨rfl, x1, f1⟩ := p1
  exact loop1 (kL K) 0 _ _ _ _ _ _ (by omega) rfl rfl (hr.1.f7 f1) x1 (f1.mono (fun _ _ h9 => Or.inl h9))
def onceV (K : KF) (A : AS) (what : Int32) : Int32 := if inR what 2 then (if kL K = 0 then -103 else if what = 0 then nI (pc16 (osF K A 31)) else nI (osF K A 31)) else -102
theorem ct_M_atOnce {K : KF} {A : AS} {q3 q4 : Nat → Int32} {F : Nat} {h : Hp} (hr : RN K A q3 q4 F h) (what : Int32) : Ct 5 md_M_atOnce [.ref 73, .int what] h (fun r h' => r = some (.int (onceV K A what)) ∧ Fr P9 h h') := by
  refine Ct_of 7 rfl rfl rfl (fun X C => ?_)
  have e2 : (decide (0 ≤ what) && decide (what ≤ 1)) = inR what 2 := inR_c (L := 2) rfl
  have ol := osF_le K A 31
  refine V_go C tk_M_atOnce [] 43 ?_
  refine ⟨_, ⟨_, by decide, (ct_M_in32 what 0 1 h)⟩, fun r4 h4 p4 => ?_⟩
  obtain ⟨rfl, rfl⟩ := p4
  refine And.intro (fun c7 => ?_) (fun c7 => ?_)
  · refine ⟨_, ⟨_, by decide, (ct_M_lacksR hr.1)⟩, fun r14 h14 p14 => ?_⟩
    obtain ⟨rfl, rfl⟩ := p14
    refine And.intro (fun c17 => ?_) (fun c17 => ?_)
    · refine ⟨_, ⟨_, by decide, (ct_M_onceSet hr)⟩, fun r24 h24 p24 => ?_⟩
      obtain ⟨rfl, f1⟩ := p24
      refine And.intro (fun c29 => ?_) (fun c29 => ?_)
      · rw [e2, tI_n] at c7
        rw [tI_0, decide_eq_false_iff_not] at c17
        exact ⟨by unfold onceV; rw [c7, if_neg c17, if_neg c29]; rfl, f1⟩
      · refine ⟨_, ⟨_, by decide, (ct_M_onesN rfl (by omega) _)⟩, fun r33 h33 p33 => ?_⟩
        obtain ⟨rfl, rfl⟩ := p33
        rw [e2, tI_n] at c7
        rw [tI_0, decide_eq_false_iff_not] at c17
        exact ⟨by unfold onceV; rw [c7, if_neg c17, if_pos c29]; rfl, f1⟩
    · rw [e2, tI_n] at c7
      rw [tI_n, decide_eq_true_iff] at c17
      exact ⟨by unfold onceV; rw [c7, if_pos c17]; rfl, Fr.rf⟩
  · rw [e2, tI_0] at c7
    exact ⟨by unfold onceV; rw [c7]; rfl, Fr.rf⟩
/-- the next seed; a draw -/
def sdF (x : Int32) : Int32 := ((1103515245 * x.toInt64 + 12345) &&& 2147483647).toInt32
theorem sdF_nn (x : Int32) : ∃ m : Nat, m < 2147483648 ∧ sdF x = nI m := by
  obtain ⟨n, hn, he⟩ := wb_of (1103515245 * x.toInt64 + 12345)
  refine ⟨n % 2 ^ 31, Nat.mod_lt _ (by decide), ?_⟩
  unfold sdF
  rw [he]
  have h1 : lN n &&& lN (2 ^ 31 - 1) = lN (n % 2 ^ 31) := wb_mask hn (by decide)
  rw [show (2147483647 : Int64) = lN (2 ^ 31 - 1) from rfl, h1, lN_i]
def drw (s : Int32) (b : Nat) : Nat := s.toNatClampNeg / 65536 % b
theorem drw_eq (x : Int32) {b : Nat} (hb : 0 < b) (hb9 : b < 1000) : (sdF x / 65536) - (sdF x / 65536) / nI b * nI b = nI (drw (sdF x) b) := by
  obtain ⟨m, hm, he⟩ := sdF_nn x
  rw [he]
  have h1 : nI m / 65536 = nI (m / 65536) := pk_div (d := 65536) hm (by decide) (by decide)
  rw [h1]
  unfold drw
  rw [nIc hm]
  exact pk_rem (by omega) hb (by omega)
def PS (a b : Nat) : Prop := P9 a b ∨ (a = 73 ∧ b = 25)
def PD (a b : Nat) : Prop := a = 73 ∧ b = 25
theorem ct_M_draw {h : Hp} {b : Nat} {y : Int32} (hy : y = nI b) (hb : 0 < b) (hb9 : b < 1000) : Ct 0 md_M_draw [.ref 73, .int y] h (fun r h' => r = some (.int (nI (drw (sdF (h.1 73 25)) b))) ∧ h'.1 73 25 = sdF (h.1 73 25) ∧ Fr PD h h') := by
  subst hy
  refine Ct_of 7 rfl rfl rfl (fun X C => ?_)
  refine V_go C tk_M_draw [] 39 ?_
  refine And.intro (by decide) ?_
  refine And.intro (by intro h9; exact absurd h9 (nI_ne0 hb (by omega))) ?_
  refine ⟨?_, up2_s h.1 73 25 (sdF (h.1 73 25)), Fr.rf.up (by unfold PD; omega)⟩
  rw [← drw_eq _ hb hb9]
  show some (Value.int (up2 h.1 73 25 (sdF (h.1 73 25)) 73 25 / 65536 - up2 h.1 73 25 (sdF (h.1 73 25)) 73 25 / 65536 / nI b * nI b)) = _
  rw [up2_s]
/-- one breath of a night by a seed: what goes on, the seed, how many lost, how often no -/
abbrev NS : Type := AS × Int32 × Nat × Nat
def ntK (K : KF) (st : NS) : Nat := drw (sdF st.2.1) (kL K)
def ntQ (K : KF) (st : NS) : Bool := decide (aD st.1 (ntK K st) = 0)
def ntY (K : KF) (F : Nat) (st : NS) : Bool := ansY K st.1 F (ntK K st) (drw (sdF (sdF st.2.1)) 4) (decide (drw (sdF (sdF (sdF st.2.1))) 2 = 1))
def ntA (K : KF) (F : Nat) (st : NS) : AS := bif ntQ K st then ansA K st.1 (ntK K st) (ntY K F st) else st.1
def ntS (K : KF) (F : Nat) (st : NS) : NS := (stepA K (ntA K F st), bif ntQ K st then sdF (sdF (sdF st.2.1)) else sdF st.2.1, st.2.2.1 + lostN K (ntA K F st), st.2.2.2 + (bif ntQ K st && !(ntY K F st) then 1 else 0))
def ntI (K : KF) (F : Nat) : Nat → NS → NS
  | 0, st => st
  | n + 1, st => ntI K F n (ntS K F st)
def ngOk (b s w : Int32) : Bool := (decide (1 ≤ b) && decide (b ≤ 40)) && !(decide (s < 0)) && inR w 3
def ngV (K : KF) (A : AS) (F : Nat) (b s w : Int32) : Int32 := if ngOk b s w then (if kL K = 0 then -103 else if w = 0 then nI (ntI K F b.toNatClampNeg (A, s, 0, 0)).2.2.1 else if w = 1 then nI (ntI K F b.toNatClampNeg (A, s, 0, 0)).2.2.2 else (ntI K F b.toNatClampNeg (A, s, 0, 0)).2.1) else -102
theorem Fr.s9 {h h' : Hp} (f : Fr P9 h h') : Fr PS h h' := f.mono (fun _ _ h9 => Or.inl h9)
theorem Fr.s7 {h h' : Hp} (f : Fr P7 h h') : Fr PS h h' := f.mono (fun _ _ h9 => Or.inl (Or.inl h9))
theorem Fr.sd {h h' : Hp} (f : Fr PD h h') : Fr PS h h' := f.mono (fun _ _ h9 => Or.inr h9)
theorem MX.fd {K : KF} {A : AS} {h h' : Hp} (a : MX K A h) (f : Fr PD h h') : MX K A h' := a.fr f (fun i j h9 => by unfold PD at h9; omega)
theorem MS.fs {K : KF} {h h' : Hp} (a : MS K h) (f : Fr PS h h') : MS K h' := a.fr f (fun i j h9 => by unfold PS P9 P7 P8 at h9; omega)
theorem ct_M_nights {K : KF} {A : AS} {q3 q4 : Nat → Int32} {F : Nat} {h : Hp} (hr : RN K A q3 q4 F h) (b s w : Int32) : Ct 6 md_M_nights [.ref 73, .int b, .int s, .int w] h (fun r h' => r = some (.int (ngV K A F b s w)) ∧ Fr PS h h') := by
  refine Ct_of 7 rfl rfl rfl (fun X C => ?_)
  have hL5 := hr.1.1.2
  have ew : (decide (0 ≤ w) && decide (w ≤ 2)) = inR w 3 := inR_c (L := 3) rfl
  cases hok : ngOk b s w with
  | false =>
    have hv : ngV K A F b s w = -102 := by unfold ngV; rw [hok]; rfl
    rw [hv] at C
    refine V_go C tk_M_nights [59] 106 ?_
    refine ⟨_, ⟨_, by decide, (ct_M_in32 b 1 40 h)⟩, fun r6 h6 p6 => ?_⟩
    obtain ⟨rfl, rfl⟩ := p6
    refine And.intro (fun c9 => ?_) (fun c9 => ?_)
    · exact ⟨rfl, Fr.rf⟩
    · refine And.intro (fun c13 => ?_) (fun c13 => ?_)
      · exact ⟨rfl, Fr.rf⟩
      · refine ⟨_, ⟨_, by decide, (ct_M_in32 w 0 2 h)⟩, fun r22 h22 p22 => ?_⟩
        obtain ⟨rfl, rfl⟩ := p22
        refine And.intro (fun c25 => ?_) (fun c25 => ?_)
        · rw [tI_n] at c9; rw [ew, tI_n] at c25; unfold ngOk at hok; rw [c9, decide_eq_false c13, c25] at hok; cases hok
        · exact ⟨rfl, Fr.rf⟩
  | true =>
  have hok2 := hok
  unfold ngOk at hok2
  simp only [Bool.and_eq_true, Bool.not_eq_true'] at hok2
  obtain ⟨⟨⟨o1, o2⟩, o3⟩, o4⟩ := hok2
  have o12 : (decide (1 ≤ b) && decide (b ≤ 40)) = true := by rw [o1, o2]; rfl
  by_cases hl0 : kL K = 0
  · have hv : ngV K A F b s w = -103 := by unfold ngV; rw [hok, if_pos hl0]; rfl
    rw [hv] at C
    refine V_go C tk_M_nights [59] 106 ?_
    refine ⟨_, ⟨_, by decide, (ct_M_in32 b 1 40 h)⟩, fun r6 h6 p6 => ?_⟩
    obtain ⟨rfl, rfl⟩ := p6
    refine And.intro (fun c9 => ?_) (fun c9 => ?_)
    · rw [o12] at c9; exact absurd c9 (by decide)
    · refine And.intro (fun c13 => ?_) (fun c13 => ?_)
      · rw [decide_eq_false_iff_not] at o3; exact absurd c13 o3
      · refine ⟨_, ⟨_, by decide, (ct_M_in32 w 0 2 h)⟩, fun r22 h22 p22 => ?_⟩
        obtain ⟨rfl, rfl⟩ := p22
        refine And.intro (fun c25 => ?_) (fun c25 => ?_)
        · refine ⟨_, ⟨_, by decide, (ct_M_lacksR hr.1)⟩, fun r32 h32 p32 => ?_⟩
          obtain ⟨rfl, rfl⟩ := p32
          refine And.intro (fun c35 => ?_) (fun c35 => ?_)
          · rw [decide_eq_true hl0] at c35; exact absurd c35 (by decide)
          · exact ⟨rfl, Fr.rf⟩
        · rw [ew, o4] at c25; exact absurd c25 (by decide)
  obtain ⟨nb, hnb, rfl⟩ : ∃ nb : Nat, nb ≤ 40 ∧ b = nI nb := by
    rw [decide_eq_true_iff, Int32.le_iff_toInt_le] at o1 o2
    rw [show (1 : Int32).toInt = 1 from rfl] at o1
    rw [show (40 : Int32).toInt = 40 from rfl] at o2
    refine ⟨b.toInt.toNat, by omega, ?_⟩
    rw [← ofInt_nat, Int.toNat_of_nonneg (by omega)]
    exact (Int32.ofInt_toInt b).symm
  have enb := nIc (i := nb) (by omega)
  have hv : ngV K A F (nI nb) s w = if w = 0 then nI (ntI K F nb (A, s, 0, 0)).2.2.1 else if w = 1 then nI (ntI K F nb (A, s, 0, 0)).2.2.2 else (ntI K F nb (A, s, 0, 0)).2.1 := by unfold ngV; rw [hok, if_neg hl0, enb]; rfl
  rw [hv] at C
  have hLp : 0 < kL K := by omega
  have loop : ∀ (n i : Nat) (x y z : Int32) (r7 r8 : Option Value) (hh : Hp) (st : NS), i + n = nb → x = nI st.2.2.1 → y = nI st.2.2.2 → z = nI i → hh.1 73 25 = st.2.1 → MS K hh → MX K st.1 hh → hh.1 73 10 = nI F → Fr PS h hh → ntI K F n st = ntI K F nb (A, s, 0, 0) → V X 59 [some (.ref 73), some (.int (nI nb)), some (.int s), some (.int w), some (.int x), some (.int y), some (.int z), r7, r8] [] hh := by
    intro n
    induction n with
    | zero =>
      intro i x y z r7 r8 hh st hi hx hy hz h25 hs hxx h10 hf hst
      subst hz
      obtain rfl : i = nb := by omega
      have hst' : st = ntI K F i (A, s, 0, 0) := hst
      refine V_go C tk_M_nights [59] 106 ?_
      refine And.intro (fun c62 => ?_) (fun c62 => ?_)
      · refine And.intro (fun c142 => ?_) (fun c142 => ?_)
        · refine And.intro (fun c152 => ?_) (fun c152 => ?_)
          · exact ⟨by rw [if_neg c142, if_neg c152, ← hst', h25], hf⟩
          · exact ⟨by rw [if_neg c142, if_pos c152, ← hst', hy], hf⟩
        · exact ⟨by rw [if_pos c142, ← hst', hx], hf⟩
      · exact absurd (Int32.le_refl _) c62
    | succ n ih =>
      intro i x y z r7 r8 hh st hi hx hy hz h25 hs hxx h10 hf hst
      subst hz
      have hk : ntK K st < kL K := Nat.mod_lt _ hLp
      have hf4 : drw (sdF (sdF st.2.1)) 4 < 4 := Nat.mod_lt _ (by decide)
      have ht2 : drw (sdF (sdF (sdF st.2.1))) 2 < 2 := Nat.mod_lt _ (by decide)
      have hst2 : ntI K F n (ntS K F st) = ntI K F nb (A, s, 0, 0) := hst
      -- from 126 on: the breath goes by
      have L126 : ∀ (yy : Int32) (k7 : Int32) (r8 : Option Value) (h2 : Hp), yy = nI (ntS K F st).2.2.2 → h2.1 73 25 = (ntS K F st).2.1 → MS K h2 → MX K (ntA K F st) h2 → h2.1 73 10 = nI F → Fr PS h h2 → V X 126 [some (.ref 73), some (.int (nI nb)), some (.int s), some (.int w), some (.int x), some (.int yy), some (.int (nI i)), some (.int k7), r8] [] h2 := by
        intro yy k7 r8 h2 hyy h25' hs2 hx2 h102 hf2
        refine V_go C tk_M_nights [59] 106 ?_
        refine ⟨_, ⟨_, by decide, (ct_M_goesBy hs2 hx2)⟩, fun r129 h129 p129 => ?_⟩
        obtain ⟨rfl, x3, f3⟩ := p129
        refine ih (i + 1) _ _ _ _ _ _ (ntS K F st) (by omega) (by rw [hx]; exact nI_add _ _) hyy (nI_1 i) ?_ (hs2.f7 f3) x3 ?_ (hf2.tr f3.s7) hst2
        · rw [f3.1 73 25 (by unfold P7; omega)]; exact h25'
        · rw [f3.1 73 10 (by unfold P7; omega)]; exact h102
      have md : ∀ {ha hb' : Hp}, Fr PD ha hb' → MS K ha → MS K hb' := fun f a => a.fs f.sd
      have e10 : ∀ {ha hb' : Hp}, Fr PD ha hb' → ha.1 73 10 = nI F → hb'.1 73 10 = nI F := fun f a => by rw [f.1 73 10 (by unfold PD; omega)]; exact a
      have L112 : ∀ h3 : Hp, ntQ K st = true → h3.1 73 25 = sdF (sdF (sdF st.2.1)) → MS K h3 → MX K st.1 h3 → h3.1 73 10 = nI F → Fr PS h h3 → V X 112 [some (.ref 73), some (.int (nI nb)), some (.int s), some (.int w), some (.int x), some (.int y), some (.int (nI i)), some (.int (nI (ntK K st))), some (.int (nI (drw (sdF (sdF st.2.1)) 4)))] [.int (tI (decide (drw (sdF (sdF (sdF st.2.1))) 2 = 1))), .int (nI (drw (sdF (sdF st.2.1)) 4)), .int (nI (ntK K st)), .ref 73, .int y] h3 := by
        intro h3 hq h25' hs3 hx3 h103 hf3
        have eA : ntA K F st = ansA K st.1 (ntK K st) (ntY K F st) := by unfold ntA; rw [hq]; rfl
        have eS : (ntS K F st).2.1 = sdF (sdF (sdF st.2.1)) := by show (bif ntQ K st then _ else _) = _; rw [hq]; rfl
        have eN : (ntS K F st).2.2.2 = st.2.2.2 + (bif !(ntY K F st) then 1 else 0) := by show st.2.2.2 + (bif ntQ K st && !(ntY K F st) then 1 else 0) = _; rw [hq]; rfl
        refine V_go C tk_M_nights [59, 126] 106 ?_
        refine ⟨_, ⟨_, by decide, (ct_M_answers hs3 hx3 h103 hr.2.2.2.2 hk hf4 (decide (drw (sdF (sdF (sdF st.2.1))) 2 = 1)))⟩, fun r112 h112 p112 => ?_⟩
        obtain ⟨rfl, x4, f4⟩ := p112
        refine And.intro (fun c115 => ?_) (fun c115 => ?_)
        · rw [tI_0] at c115
          have c115' : ntY K F st = false := c115
          refine L126 _ _ _ _ (by rw [eN, c115', hy]; exact nI_1 _) ?_ (hs3.f9 f4) (by rw [eA]; exact x4) ?_ (hf3.tr f4.s9)
          · rw [eS, f4.1 73 25 (by unfold P9 P7 P8; omega)]; exact h25'
          · rw [f4.1 73 10 (by unfold P9 P7 P8; omega)]; exact h103
        · rw [tI_n] at c115
          have c115' : ntY K F st = true := c115
          refine L126 _ _ _ _ (by rw [eN, c115', hy]; exact nI_add _ 0) ?_ (hs3.f9 f4) (by rw [eA]; exact x4) ?_ (hf3.tr f4.s9)
          · rw [eS, f4.1 73 25 (by unfold P9 P7 P8; omega)]; exact h25'
          · rw [f4.1 73 10 (by unfold P9 P7 P8; omega)]; exact h103
      have e21 : nI (drw (sdF (sdF (sdF st.2.1))) 2) = 1 ↔ drw (sdF (sdF (sdF st.2.1))) 2 = 1 := nI_eq (b := 1) (by omega) (by decide)
      refine V_go C tk_M_nights [59, 112, 126] 106 ?_
      refine And.intro (fun c62 => ?_) (fun c62 => ?_)
      · exact absurd c62 (nI_ge (by omega) (by omega))
      · refine ⟨_, ⟨_, by decide, (ct_M_draw hs.1.1 hLp (by omega))⟩, fun r70 h70 p70 => ?_⟩
        obtain ⟨rfl, d1, f1⟩ := p70
        rw [h25] at d1
        rw [h25]
        have hl : decide (h70.1 78 (ntK K st) = 0) = ntQ K st := by
          unfold ntQ
          apply decide_eq_decide.mpr
          rw [((hxx.fd f1).1 (ntK K st) hk).1]
          exact nI_eq0 (by have := ((hxx.fd f1).1 (ntK K st) hk).2; omega)
        refine ⟨_, ⟨_, by decide, (ct_M_isLit (k := ntK K st) (Nat.lt_of_lt_of_le hk hL5) h70)⟩, fun r78 h78 p78 => ?_⟩
        obtain ⟨rfl, rfl⟩ := p78
        refine And.intro (fun c81 => ?_) (fun c81 => ?_)
        · rw [hl, tI_0] at c81
          refine L126 _ _ _ _ ?_ ?_ (md f1 hs) ?_ (e10 f1 h10) (hf.tr f1.sd)
          · rw [hy]
            show _ = nI (st.2.2.2 + (bif ntQ K st && !(ntY K F st) then 1 else 0))
            rw [c81]
            rfl
          · show _ = (bif ntQ K st then _ else _)
            rw [c81]
            exact d1
          · have : ntA K F st = st.1 := by unfold ntA; rw [c81]; rfl
            rw [this]
            exact hxx.fd f1
        · refine ⟨_, ⟨_, by decide, (ct_M_draw (b := 4) rfl (by decide) (by decide))⟩, fun r86 h86 p86 => ?_⟩
          obtain ⟨rfl, d2, f2⟩ := p86
          rw [d1] at d2
          rw [d1]
          refine ⟨_, ⟨_, by decide, (ct_M_draw (b := 2) rfl (by decide) (by decide))⟩, fun r100 h100 p100 => ?_⟩
          obtain ⟨rfl, d3, f3⟩ := p100
          rw [d2] at d3
          rw [d2]
          refine And.intro (fun c104 => ?_) (fun c104 => ?_)
          · rw [hl, tI_n] at c81
            rw [e21] at c104
            have q := L112 h100 c81 d3 (md f3 (md f2 (md f1 hs))) (((hxx.fd f1).fd f2).fd f3) (e10 f3 (e10 f2 (e10 f1 h10))) (((hf.tr f1.sd).tr f2.sd).tr f3.sd)
            rw [decide_eq_false c104] at q
            exact q
          · rw [hl, tI_n] at c81
            rw [e21] at c104
            have q := L112 h100 c81 d3 (md f3 (md f2 (md f1 hs))) (((hxx.fd f1).fd f2).fd f3) (e10 f3 (e10 f2 (e10 f1 h10))) (((hf.tr f1.sd).tr f2.sd).tr f3.sd)
            rw [decide_eq_true c104] at q
            exact q
  refine V_go C tk_M_nights [59] 106 ?_
  refine ⟨_, ⟨_, by decide, (ct_M_in32 (nI nb) 1 40 h)⟩, fun r6 h6 p6 => ?_⟩
  obtain ⟨rfl, rfl⟩ := p6
  refine And.intro (fun c9 => ?_) (fun c9 => ?_)
  · rw [o12] at c9; exact absurd c9 (by decide)
  · refine And.intro (fun c13 => ?_) (fun c13 => ?_)
    · rw [decide_eq_false_iff_not] at o3; exact absurd c13 o3
    · refine ⟨_, ⟨_, by decide, (ct_M_in32 w 0 2 h)⟩, fun r22 h22 p22 => ?_⟩
      obtain ⟨rfl, rfl⟩ := p22
      refine And.intro (fun c25 => ?_) (fun c25 => ?_)
      · refine ⟨_, ⟨_, by decide, (ct_M_lacksR hr.1)⟩, fun r32 h32 p32 => ?_⟩
        obtain ⟨rfl, rfl⟩ := p32
        refine And.intro (fun c35 => ?_) (fun c35 => ?_)
        · refine ⟨_, ⟨_, by decide, (ct_M_asItIs hr.1 hr.2.1)⟩, fun r42 h42 p42 => ?_⟩
          obtain ⟨rfl, x1, f1⟩ := p42
          have fu : Fr PD h42 (up2 h42.1 73 25 s, h42.2) := Fr.rf.up (by unfold PD; omega)
          refine loop nb 0 _ _ _ _ _ _ (A, s, 0, 0) (by omega) rfl rfl rfl (up2_s h42.1 73 25 s) ((hr.1.f7 f1).fs fu.sd) (x1.fd fu) ?_ (f1.s7.tr fu.sd) rfl
          rw [fu.1 73 10 (by unfold PD; omega), f1.1 73 10 (by unfold P7; omega)]
          exact hr.2.2.2.1
        · rw [decide_eq_false hl0] at c35; exact absurd rfl c35
      · rw [ew, o4] at c25; exact absurd c25 (by decide)
