/-! ===== the reference: worlds told, next, kinds ===== -/
/-- the least world, what is so in all, in some: from above -/
def lsB (b : Nat) : Nat → Int32
  | 0 => -1
  | n + 1 => if b.testBit (15 - n) then nI (15 - n) else lsB b n
def anB (b : Nat) : Nat → Int32
  | 0 => 15
  | n + 1 => if b.testBit (15 - n) then anB b n &&& nI (15 - n) else anB b n
def smB (b : Nat) : Nat → Int32
  | 0 => 0
  | n + 1 => if b.testBit (15 - n) then smB b n ||| nI (15 - n) else smB b n
def wdV (b : Nat) (what : Int32) : Int32 := if what = 0 then nI (pc16 b) else if b = 0 ∨ what = 1 then lsB b 16 else if what = 2 then anB b 16 else smB b 16
theorem ct_M_worldsOf {K : KF} {H : HD} {h : Hp} (hs : MS K h) (hr : RH 84 23 H h) (hlt : ∀ i, i < dM H → dL H i < kL K) (what : Int32) : Ct 2 md_M_worldsOf [.ref 73, .int what] h (ex (.int (wdV (wBits K H (-1) 0) what)) h) := by
  refine Ct_of 7 rfl rfl rfl (fun X C => ?_)
  have hb := wBits_lt K H (-1) 0
  revert C
  generalize hbe : wBits K H (-1) 0 = b at hb
  intro C
  have eb0 : nI b = 0 ↔ b = 0 := nI_eq0 (by omega)
  have loop : ∀ (n i : Nat) (x y z d : Int32), n + i = 16 → x = lsB b i → y = anB b i → z = smB b i → d = Int32.ofInt ((n : Int) - 1) → V X 20 [some (.ref 73), some (.int what), some (.int (nI b)), some (.int x), some (.int y), some (.int z), some (.int d)] [] h := by
    intro n
    induction n with
    | zero =>
      intro i x y z d hi hx hy hz hd
      obtain rfl : i = 16 := by omega
      subst hx
      subst hy
      subst hz
      subst hd
      refine V_go C tk_M_worldsOf [20] 73 ?_
      refine And.intro (fun c22 => ?_) (fun c22 => ?_)
      · refine And.intro (fun c59 => ?_) (fun c59 => ?_)
        · refine And.intro (fun c70 => ?_) (fun c70 => ?_)
          · exact ⟨by unfold wdV; rw [if_neg c59, if_pos (Or.inl (eb0.mp c70))], rfl⟩
          · refine And.intro (fun c75 => ?_) (fun c75 => ?_)
            · refine And.intro (fun c84 => ?_) (fun c84 => ?_)
              · exact ⟨by unfold wdV; rw [if_neg c59, if_neg (fun h9 => h9.elim (fun h8 => c70 (eb0.mpr h8)) c75), if_neg c84], rfl⟩
              · exact ⟨by unfold wdV; rw [if_neg c59, if_neg (fun h9 => h9.elim (fun h8 => c70 (eb0.mpr h8)) c75), if_pos c84], rfl⟩
            · exact ⟨by unfold wdV; rw [if_neg c59, if_pos (Or.inr c75)], rfl⟩
        · refine ⟨_, ⟨_, by decide, (ct_M_onesN rfl hb h)⟩, fun r63 h63 p63 => ?_⟩
          obtain ⟨rfl, rfl⟩ := p63
          exact ⟨by unfold wdV; rw [if_pos c59], rfl⟩
      · exact absurd (by decide) c22
    | succ n ih =>
      intro i x y z d hi hx hy hz hd
      have hd2 : d = nI n := by rw [hd, show ((n + 1 : Nat) : Int) - 1 = (n : Int) by omega]; rfl
      subst hd2
      have hn : n < 16 := by omega
      have en : 15 - i = n := by omega
      have eb := bitAt1 (m := b) (k := n) hb (by omega)
      have ed : nI n + -1 = Int32.ofInt ((n : Int) - 1) := by rw [← ofInt_nat, ← show Int32.ofInt (-1) = -1 from rfl, ← Int32.ofInt_add]; rfl
      refine V_go C tk_M_worldsOf [20] 73 ?_
      refine And.intro (fun c22 => ?_) (fun c22 => ?_)
      · exact absurd c22 (nI_pos (by omega))
      · refine And.intro (fun c32 => ?_) (fun c32 => ?_)
        · rw [eb] at c32
          exact ih (i + 1) _ _ _ _ (by omega) (by rw [hx]; unfold lsB; rw [en, if_neg c32]; cases i <;> rfl) (by rw [hy]; unfold anB; rw [en, if_neg c32]; cases i <;> rfl) (by rw [hz]; unfold smB; rw [en, if_neg c32]; cases i <;> rfl) ed
        · rw [eb] at c32
          exact ih (i + 1) _ _ _ _ (by omega) (by unfold lsB; rw [en, if_pos c32]) (by rw [hy]; conv => rhs; unfold anB; rw [en, if_pos c32]) (by rw [hz]; conv => rhs; unfold smB; rw [en, if_pos c32]) ed
  refine V_go C tk_M_worldsOf [20] 73 ?_
  refine ⟨_, ⟨_, by decide, (ct_M_worldBits hs hr hlt (-1) 0)⟩, fun r3 h3 p3 => ?_⟩
  rw [hbe] at p3
  obtain ⟨rfl, rfl⟩ := p3
  exact loop 16 0 _ _ _ _ rfl rfl rfl rfl rfl
def wldV (K : KF) (H : HD) (what : Int32) : Int32 := if inR what 4 then (if kL K = 0 then -103 else wdV (wBits K H (-1) 0) what) else -102
theorem ct_M_worlds {K : KF} {H : HD} {h : Hp} (hs : MS K h) (hr : RH 84 23 H h) (hlt : ∀ i, i < dM H → dL H i < kL K) (what : Int32) : Ct 3 md_M_worlds [.ref 73, .int what] h (ex (.int (wldV K H what)) h) := by
  refine Ct_of 7 rfl rfl rfl (fun X C => ?_)
  have e4 : (decide (0 ≤ what) && decide (what ≤ 3)) = inR what 4 := inR_c (L := 4) rfl
  refine V_go C tk_M_worlds [] 37 ?_
  refine ⟨_, ⟨_, by decide, (ct_M_in32 what 0 3 h)⟩, fun r6 h6 p6 => ?_⟩
  obtain ⟨rfl, rfl⟩ := p6
  refine And.intro (fun c9 => ?_) (fun c9 => ?_)
  · refine ⟨_, ⟨_, by decide, (ct_M_lacksR hs)⟩, fun r16 h16 p16 => ?_⟩
    obtain ⟨rfl, rfl⟩ := p16
    refine And.intro (fun c19 => ?_) (fun c19 => ?_)
    · refine ⟨_, ⟨_, by decide, (ct_M_worldsOf hs hr hlt what)⟩, fun r29 h29 p29 => ?_⟩
      obtain ⟨rfl, rfl⟩ := p29
      rw [e4, tI_n] at c9
      rw [tI_0, decide_eq_false_iff_not] at c19
      exact ⟨by unfold wldV; rw [c9, if_neg c19]; rfl, rfl⟩
    · rw [e4, tI_n] at c9
      rw [tI_n, decide_eq_true_iff] at c19
      exact ⟨by unfold wldV; rw [c9, if_pos c19]; rfl, rfl⟩
  · rw [e4, tI_0] at c9
    exact ⟨by unfold wldV; rw [c9]; rfl, rfl⟩
/-- which kinds a light can be -/
def kdV (K : KF) (H : HD) (k : Nat) : Nat := msk (fun kind => !(decide (wBits K H (nI k) (nI kind) = 0))) 5
theorem ct_M_kindBits {K : KF} {H : HD} {h : Hp} (hs : MS K h) (hr : RH 84 23 H h) (hlt : ∀ i, i < dM H → dL H i < kL K) (k : Nat) : Ct 2 md_M_kindBits [.ref 73, .int (nI k)] h (ex (.int (nI (kdV K H k))) h) := by
  refine Ct_of 7 rfl rfl rfl (fun X C => ?_)
  have loop : ∀ (n i : Nat) (a b : Int32), i + n = 5 → a = nI (msk (fun kind => !(decide (wBits K H (nI k) (nI kind) = 0))) i) → b = nI i → V X 4 [some (.ref 73), some (.int (nI k)), some (.int a), some (.int b)] [] h := by
    intro n
    induction n with
    | zero =>
      intro i a b hi ha hb
      subst hb
      obtain rfl : i = 5 := by omega
      refine V_go C tk_M_kindBits [4] 44 ?_
      refine And.intro (fun c6 => ?_) (fun c6 => ?_)
      · exact ⟨by rw [ha]; rfl, rfl⟩
      · exact absurd (by decide) c6
    | succ n ih =>
      intro i a b hi ha hb
      subst hb
      have e0 : nI (wBits K H (nI k) (nI i)) = 0 ↔ wBits K H (nI k) (nI i) = 0 := nI_eq0 (by have := wBits_lt K H (nI k) (nI i); omega)
      have hm : msk (fun kind => !(decide (wBits K H (nI k) (nI kind) = 0))) (i + 1) = msk (fun kind => !(decide (wBits K H (nI k) (nI kind) = 0))) i ||| (bif !(decide (wBits K H (nI k) (nI i) = 0)) then 2 ^ i else 0) := rfl
      refine V_go C tk_M_kindBits [4] 44 ?_
      refine And.intro (fun c6 => ?_) (fun c6 => ?_)
      · exact absurd c6 (nI_ge (b := 5) (by omega) (by decide))
      · refine ⟨_, ⟨_, by decide, (ct_M_worldBits hs hr hlt (nI k) (nI i))⟩, fun r13 h13 p13 => ?_⟩
        obtain ⟨rfl, rfl⟩ := p13
        refine And.intro (fun c16 => ?_) (fun c16 => ?_)
        · rw [e0] at c16
          exact ih (i + 1) _ _ (by omega) (by rw [ha, hm, decide_eq_true c16]; exact fa_or _ 0) (nI_1 i)
        · rw [e0] at c16
          exact ih (i + 1) _ _ (by omega) (by rw [ha, hm, decide_eq_false c16, shl1 (by omega)]; exact fa_or _ _) (nI_1 i)
  refine V_go C tk_M_kindBits [4] 44 ?_
  exact loop 5 0 _ _ rfl rfl rfl
def kndV (K : KF) (H : HD) (k : Int32) : Int32 := if inR k (kL K) then nI (kdV K H k.toNatClampNeg) else -101
theorem ct_M_kinds {K : KF} {H : HD} {h : Hp} (hs : MS K h) (hr : RH 84 23 H h) (hlt : ∀ i, i < dM H → dL H i < kL K) (k : Int32) : Ct 3 md_M_kinds [.ref 73, .int k] h (ex (.int (kndV K H k)) h) := by
  refine Ct_of 7 rfl rfl rfl (fun X C => ?_)
  cases hin : inR k (kL K) with
  | false =>
    refine V_go C tk_M_kinds [] 30 ?_
    refine ⟨_, ⟨_, by decide, (ct_M_isLightR hs k)⟩, fun r2 h2 p2 => ?_⟩
    obtain ⟨rfl, rfl⟩ := p2
    refine And.intro (fun c5 => ?_) (fun c5 => ?_)
    · exact ⟨by unfold kndV; rw [hin]; rfl, rfl⟩
    · rw [hin] at c5; exact absurd rfl c5
  | true =>
    obtain ⟨j, hj, rfl⟩ := inR_t hin
    have e := nIc (i := j) (by have := hs.1.2; omega)
    refine V_go C tk_M_kinds [] 30 ?_
    refine ⟨_, ⟨_, by decide, (ct_M_isLightR hs (nI j))⟩, fun r2 h2 p2 => ?_⟩
    obtain ⟨rfl, rfl⟩ := p2
    refine And.intro (fun c5 => ?_) (fun c5 => ?_)
    · rw [hin] at c5; exact absurd c5 (by decide)
    · refine ⟨_, ⟨_, by decide, (ct_M_kindBits hs hr hlt j)⟩, fun r10 h10 p10 => ?_⟩
      obtain ⟨rfl, rfl⟩ := p10
      exact ⟨by unfold kndV; rw [hin, e]; rfl, rfl⟩
/-- yes to a question (its number) in a world -/
def qS (K : KF) (br : Int32) (c w : Nat) : Bool := sayF (nI (kK K (c / 8))) (w.testBit (c / 2 % 4) != decide (c % 2 = 1)) br
def wstM (K : KF) (br : Int32) (b c : Nat) : Nat := if pc16 (b &&& msk (qS K br c) 16) ≤ pc16 (b &&& (65535 ^^^ msk (qS K br c) 16)) then pc16 (b &&& (65535 ^^^ msk (qS K br c) 16)) else pc16 (b &&& msk (qS K br c) 16)
def nxS (K : KF) (A : AS) (b : Nat) : Nat → Int32 × Nat
  | 0 => (-1, 17)
  | c + 1 => if aD A (c / 8) = 0 ∧ wstM K (aB A) b c < (nxS K A b c).2 then (nI c, wstM K (aB A) b c) else nxS K A b c
theorem pc16_le (b : Nat) : pc16 b ≤ 16 := cnt_le _ _
theorem wstM_le (K : KF) (br : Int32) (b c : Nat) : wstM K br b c ≤ 16 := by
  unfold wstM
  split <;> exact pc16_le _
theorem nxS_le (K : KF) (A : AS) (b : Nat) : ∀ c, (nxS K A b c).2 ≤ 17
  | 0 => Nat.le_refl 17
  | c + 1 => by
    unfold nxS
    split
    · have := wstM_le K (aB A) b c
      show wstM K (aB A) b c ≤ 17
      omega
    · exact nxS_le K A b c
def nxV (K : KF) (A : AS) (b : Nat) : Int32 := if b = 0 then -1 else (nxS K A b (8 * kL K)).1
theorem ct_M_nextOf {K : KF} {A : AS} {q3 q4 : Nat → Int32} {F : Nat} {H : HD} {h : Hp} (hn : RN K A q3 q4 F h) (hr : RH 84 23 H h) (hlt : ∀ i, i < dM H → dL H i < kL K) : Ct 2 md_M_nextOf [.ref 73] h (ex (.int (nxV K A (wBits K H (-1) 0))) h) := by
  refine Ct_of 7 rfl rfl rfl (fun X C => ?_)
  have hs := hn.1
  have hL5 := hs.1.2
  have hL := hs.1.1
  have hb := wBits_lt K H (-1) 0
  revert C
  generalize hbe : wBits K H (-1) 0 = b at hb
  intro C
  have eb0 : nI b = 0 ↔ b = 0 := nI_eq0 (by omega)
  have e8 : (8 : Int32) * h.1 73 7 = nI (8 * kL K) := by rw [hL]; exact pk_mul 8 (kL K)
  have outer : ∀ (n c : Nat) (x y z : Int32) (r5 r6 r7 r8 r9 r10 : Option Value), c + n = 8 * kL K → x = (nxS K A b c).1 → y = nI (nxS K A b c).2 → z = nI c → ¬ b = 0 → V X 15 [some (.ref 73), some (.int (nI b)), some (.int x), some (.int y), some (.int z), r5, r6, r7, r8, r9, r10] [] h := by
    intro n
    induction n with
    | zero =>
      intro c x y z r5 r6 r7 r8 r9 r10 hi hx hy hz hb0
      subst hz
      refine V_go C tk_M_nextOf [15, 44] 138 ?_
      refine And.intro (fun c24 => ?_) (fun c24 => ?_)
      · exact ⟨by unfold nxV; rw [if_neg hb0, hx, show c = 8 * kL K by omega], rfl⟩
      · exact absurd (nle (by rw [e8]; congr 1; omega)) c24
    | succ n ih =>
      intro c x y z r5 r6 r7 r8 r9 r10 hi hx hy hz hb0
      subst hz
      have hc8 : c / 8 < kL K := by omega
      have k8 : nI c / 8 = nI (c / 8) := pk_div (d := 8) (by omega) (by decide) (by decide)
      have k2 : nI c / 2 = nI (c / 2) := pk_div (d := 2) (by omega) (by decide) (by decide)
      have kf : nI (c / 2) - nI (c / 2) / 4 * 4 = nI (c / 2 % 4) := pk_rem (d := 4) (by omega) (by decide) (by decide)
      have kt : nI c - nI c / 2 * 2 = nI (c % 2) := pk_rem (d := 2) (by omega) (by decide) (by decide)
      have i0 : ((5 : Int32) * nI (c / 8)).toNatClampNeg = 5 * (c / 8) := ix0c 5 (c / 8) (by omega)
      have i2 : ((5 : Int32) * nI (c / 8) + 2).toNatClampNeg = 5 * (c / 8) + 2 := ixc 5 2 (c / 8) (by omega)
      have hkk : h.1 76 (5 * (c / 8)) = nI (kK K (c / 8)) := (hs.2.2.2.1 (c / 8) hc8).1
      have hdd : h.1 76 (5 * (c / 8) + 2) = 0 ↔ aD A (c / 8) = 0 := by
        rw [(hn.2.1.1 (c / 8) hc8).1]
        exact nI_eq0 (by have := (hn.2.1.1 (c / 8) hc8).2; omega)
      have hbr := hn.2.1.2.2
      have inner : ∀ (q w : Nat) (m d : Int32) (r8 r9 r10 : Option Value), w + q = 16 → m = nI (msk (qS K (aB A) c) w) → d = nI w → V X 44 [some (.ref 73), some (.int (nI b)), some (.int x), some (.int y), some (.int (nI c)), some (.int (nI (c / 8))), some (.int m), some (.int d), r8, r9, r10] [] h := by
        intro q
        induction q with
        | zero =>
          intro w m d r8 r9 r10 hw hm hd
          subst hd
          obtain rfl : w = 16 := by omega
          subst hm
          have hml : msk (qS K (aB A) c) 16 < 65536 := msk_lt _ 16
          have a1 : nI b &&& nI (msk (qS K (aB A) c) 16) = nI (b &&& msk (qS K (aB A) c) 16) := fa_and _ _
          have a2 := and_not hb hml
          have l1 : b &&& msk (qS K (aB A) c) 16 < 65536 := Nat.lt_of_le_of_lt Nat.and_le_left hb
          have l2 : b &&& (65535 ^^^ msk (qS K (aB A) c) 16) < 65536 := Nat.lt_of_le_of_lt Nat.and_le_left hb
          have p1 := pc16_le (b &&& msk (qS K (aB A) c) 16)
          have p2 := pc16_le (b &&& (65535 ^^^ msk (qS K (aB A) c) 16))
          have wl := wstM_le K (aB A) b c
          have nl := nxS_le K A b c
          have L178 : ∀ (t r8 : Int32) (r7 r10 : Option Value), t = tI (decide (aD A (c / 8) = 0 ∧ wstM K (aB A) b c < (nxS K A b c).2)) → V X 178 [some (.ref 73), some (.int (nI b)), some (.int x), some (.int y), some (.int (nI c)), some (.int (nI (c / 8))), some (.int (nI (msk (qS K (aB A) c) 16))), r7, some (.int r8), some (.int (nI (wstM K (aB A) b c))), r10] [.int t] h := by
            intro t r8 r7 r10 ht
            have e1 : nxS K A b (c + 1) = if aD A (c / 8) = 0 ∧ wstM K (aB A) b c < (nxS K A b c).2 then (nI c, wstM K (aB A) b c) else nxS K A b c := rfl
            subst ht
            refine V_go C tk_M_nextOf [15, 44] 138 ?_
            refine And.intro (fun c182 => ?_) (fun c182 => ?_)
            · refine And.intro (fun c194 => ?_) (fun c194 => ?_)
              · rw [tI_0, decide_eq_false_iff_not] at c182
                exact ih (c + 1) _ _ _ _ _ _ _ _ _ (by omega) (by rw [e1, if_neg c182]; exact hx) (by rw [e1, if_neg c182]; exact hy) (nI_1 c) hb0
              · exact absurd c182 c194
            · refine And.intro (fun c194 => ?_) (fun c194 => ?_)
              · exact absurd c194 c182
              · rw [tI_n, decide_eq_true_iff] at c182
                exact ih (c + 1) _ _ _ _ _ _ _ _ _ (by omega) (by rw [e1, if_pos c182]) (by rw [e1, if_pos c182]) (nI_1 c) hb0
          have L151 : ∀ (t r8 : Int32) (r7 r9 r10 : Option Value), t = nI (wstM K (aB A) b c) → V X 151 [some (.ref 73), some (.int (nI b)), some (.int x), some (.int y), some (.int (nI c)), some (.int (nI (c / 8))), some (.int (nI (msk (qS K (aB A) c) 16))), r7, some (.int r8), r9, r10] [.int t] h := by
            intro t r8 r7 r9 r10 ht
            subst ht
            refine V_go C tk_M_nextOf [15, 44, 178] 138 ?_
            refine And.intro ((ixin 5 2 (c / 8) 25 (by omega) (by decide))) ?_
            refine And.intro (fun c164 => ?_) (fun c164 => ?_)
            · rw [i2, hdd] at c164
              exact L178 _ _ _ _ (by rw [decide_eq_false (fun h9 => c164 h9.1)]; rfl)
            · refine And.intro (fun c170 => ?_) (fun c170 => ?_)
              · rw [hy] at c170
                exact L178 _ _ _ _ (by rw [decide_eq_false (fun h9 => absurd c170 (nI_ge h9.2 (by omega)))]; rfl)
              · rw [i2, hdd] at c164
                rw [hy] at c170
                exact L178 _ _ _ _ (by rw [decide_eq_true ⟨c164, Nat.lt_of_not_le (fun h9 => c170 (nI_le h9 (by omega)))⟩]; rfl)
          refine V_go C tk_M_nextOf [15, 44, 151] 138 ?_
          refine And.intro (fun c48 => ?_) (fun c48 => ?_)
          · refine ⟨_, ⟨_, by decide, (ct_M_onesN a1 l1 h)⟩, fun r121 h121 p121 => ?_⟩
            obtain ⟨rfl, rfl⟩ := p121
            refine ⟨_, ⟨_, by decide, (ct_M_onesN a2 l2 h)⟩, fun r132 h132 p132 => ?_⟩
            obtain ⟨rfl, rfl⟩ := p132
            refine And.intro (fun c141 => ?_) (fun c141 => ?_)
            · exact L151 _ _ _ _ _ (by unfold wstM; rw [if_pos ((nI_leI (by omega) (by omega)).mp c141)])
            · exact L151 _ _ _ _ _ (by unfold wstM; rw [if_neg (fun h9 => c141 ((nI_leI (by omega) (by omega)).mpr h9))])
          · exact absurd (by decide) c48
        | succ q ihq =>
          intro w m d r8 r9 r10 hw hm hd
          subst hd
          have hw16 : w < 16 := by omega
          have e1 : msk (qS K (aB A) c) (w + 1) = msk (qS K (aB A) c) w ||| (bif qS K (aB A) c w then 2 ^ w else 0) := rfl
          have L81 : V X 81 [some (.ref 73), some (.int (nI b)), some (.int x), some (.int y), some (.int (nI c)), some (.int (nI (c / 8))), some (.int m), some (.int (nI w)), r8, r9, r10] [.int (tI (decide (c % 2 = 1))), .int (nI (c / 2 % 4)), .int (nI w), .int (nI (kK K (c / 8)))] h := by
            refine V_go C tk_M_nextOf [15, 44] 138 ?_
            refine ⟨_, ⟨_, by decide, (ct_M_isTrueN (w := w) rfl hw16 (Nat.mod_lt _ (by decide)) (decide (c % 2 = 1)) h)⟩, fun r81 h81 p81 => ?_⟩
            obtain ⟨rfl, rfl⟩ := p81
            refine ⟨_, ⟨_, by decide, (ct_M_says (nI (kK K (c / 8))) (w.testBit (c / 2 % 4) != decide (c % 2 = 1)) (h.1 73 11) h)⟩, fun r88 h88 p88 => ?_⟩
            obtain ⟨rfl, rfl⟩ := p88
            refine And.intro (fun c97 => ?_) (fun c97 => ?_)
            · rw [hbr, tI_0] at c97
              exact ihq (w + 1) _ _ _ _ _ (by omega) (by rw [hm, e1, show qS K (aB A) c w = false from c97]; exact fa_or _ 0) (nI_1 w)
            · rw [hbr, tI_n] at c97
              exact ihq (w + 1) _ _ _ _ _ (by omega) (by rw [hm, e1, show qS K (aB A) c w = true from c97, shl1 (by omega)]; exact fa_or _ _) (nI_1 w)
          have e21 : nI (c % 2) = 1 ↔ c % 2 = 1 := nI_eq (b := 1) (by omega) (by decide)
          refine V_go C tk_M_nextOf [15, 44, 81] 138 ?_
          refine And.intro (fun c48 => ?_) (fun c48 => ?_)
          · exact absurd c48 (nI_ge (b := 16) (by omega) (by decide))
          · refine And.intro ((ix0in 5 (c / 8) 25 (by omega) (by decide))) ?_
            refine And.intro (by decide) ?_
            refine And.intro (by decide) ?_
            refine And.intro (by decide) ?_
            refine And.intro (fun c73 => ?_) (fun c73 => ?_)
            · rw [kt, e21] at c73
              rw [decide_eq_false c73] at L81
              rw [i0, hkk, k2, kf]
              exact L81
            · rw [kt, e21] at c73
              rw [decide_eq_true c73] at L81
              rw [i0, hkk, k2, kf]
              exact L81
      refine V_go C tk_M_nextOf [15, 44] 138 ?_
      refine And.intro (fun c24 => ?_) (fun c24 => ?_)
      · exact absurd c24 (nge (by omega) (by omega) e8)
      · refine And.intro (fun c28 => ?_) (fun c28 => ?_)
        · exact absurd (eb0.mp c28) hb0
        · refine And.intro (by decide) ?_
          rw [k8]
          exact inner 16 0 _ _ _ _ _ rfl rfl rfl
  by_cases hb0 : b = 0
  · subst hb0
    have stop : ∀ (x y z : Int32) (r5 r6 r7 r8 r9 r10 : Option Value), x = -1 → V X 15 [some (.ref 73), some (.int (nI 0)), some (.int x), some (.int y), some (.int z), r5, r6, r7, r8, r9, r10] [] h := by
      intro x y z r5 r6 r7 r8 r9 r10 hx
      refine V_go C tk_M_nextOf [15, 44] 138 ?_
      refine And.intro (fun c24 => ?_) (fun c24 => ?_)
      · exact ⟨by rw [hx]; rfl, rfl⟩
      · refine And.intro (fun c28 => ?_) (fun c28 => ?_)
        · exact ⟨by rw [hx]; rfl, rfl⟩
        · exact absurd rfl c28
    refine V_go C tk_M_nextOf [15, 44] 138 ?_
    refine ⟨_, ⟨_, by decide, (ct_M_worldBits hs hr hlt (-1) 0)⟩, fun r3 h3 p3 => ?_⟩
    rw [hbe] at p3
    obtain ⟨rfl, rfl⟩ := p3
    exact stop _ _ _ _ _ _ _ _ _ rfl
  · skip
    refine V_go C tk_M_nextOf [15, 44] 138 ?_
    refine ⟨_, ⟨_, by decide, (ct_M_worldBits hs hr hlt (-1) 0)⟩, fun r3 h3 p3 => ?_⟩
    rw [hbe] at p3
    obtain ⟨rfl, rfl⟩ := p3
    exact outer (8 * kL K) 0 _ _ _ _ _ _ _ _ _ (by omega) rfl rfl rfl hb0
def nextV (K : KF) (A : AS) (H : HD) : Int32 := if kL K = 0 then -103 else nxV K A (wBits K H (-1) 0)
theorem ct_M_next {K : KF} {A : AS} {q3 q4 : Nat → Int32} {F : Nat} {H : HD} {h : Hp} (hn : RN K A q3 q4 F h) (hr : RH 84 23 H h) (hlt : ∀ i, i < dM H → dL H i < kL K) : Ct 3 md_M_next [.ref 73] h (ex (.int (nextV K A H)) h) := by
  refine Ct_of 7 rfl rfl rfl (fun X C => ?_)
  refine V_go C tk_M_next [] 28 ?_
  refine ⟨_, ⟨_, by decide, (ct_M_lacksR hn.1)⟩, fun r1 h1 p1 => ?_⟩
  obtain ⟨rfl, rfl⟩ := p1
  refine And.intro (fun c4 => ?_) (fun c4 => ?_)
  · refine ⟨_, ⟨_, by decide, (ct_M_nextOf hn hr hlt)⟩, fun r13 h13 p13 => ?_⟩
    obtain ⟨rfl, rfl⟩ := p13
    rw [tI_0, decide_eq_false_iff_not] at c4
    exact ⟨by unfold nextV; rw [if_neg c4], rfl⟩
  · rw [tI_n, decide_eq_true_iff] at c4
    exact ⟨by unfold nextV; rw [if_pos c4], rfl⟩
