/-! ===== the class: page and strait ===== -/
theorem ct_Page_write {p : Nat} {h : Hp} (hp : h.1 1 1 = nI p) (h18 : p < 18) (c : Int32) : Ct 1 md_Page_write [.ref 1, .int c] h (exV (up2 (up2 h.1 41 p c) 1 1 (nI (p + 1)), h.2)) := by
  refine Ct_of 3 rfl rfl rfl (fun X C => ?_)
  refine V_go C tk_Page_write [] 33 ?_
  refine ⟨_, ⟨_, by decide, (ct_Row_put (r := 9) (a := 41) (n := 18) (by decide) hp (by omega) c h)⟩, fun r9 h9 p9 => ?_⟩
  obtain ⟨rfl, rfl⟩ := p9
  refine ⟨rfl, ?_⟩
  simp only [up2, hp, ← nI_1]
  simp [hp]
theorem ct_Page_wipe (h : Hp) : Ct 0 md_Page_wipe [.ref 1] h (exV (up2 h.1 1 1 0, h.2)) := by
  refine Ct_of 3 rfl rfl rfl (fun X C => ?_)
  refine V_go C tk_Page_wipe [] 24 ?_
  exact ⟨rfl, rfl⟩
theorem ct_Page_digitAt {k : Nat} {x : Int32} (hx : x = nI k) (hk : k < 18) (h : Hp) : Ct 1 md_Page_digitAt [.ref 1, .int x] h (ex (.int (h.1 41 k - 48)) h) := by
  refine Ct_of 3 rfl rfl rfl (fun X C => ?_)
  refine V_go C tk_Page_digitAt [] 27 ?_
  refine ⟨_, ⟨_, by decide, (ct_Row_at (r := 9) (a := 41) (n := 18) (by decide) hx hk h)⟩, fun r5 h5 p5 => ?_⟩
  obtain ⟨rfl, rfl⟩ := p5
  exact ⟨rfl, rfl⟩
/-- the class's strait, without what shines where -/
def CS0 (K : KF) (h : Hp) : Prop := (h.1 2 3 = nI (kL K) ∧ kL K ≤ 5) ∧ (h.1 2 4 = nI (kR K) ∧ kR K ≤ 9) ∧ (h.1 2 5 = nI (kD K) ∧ kD K ≤ 9) ∧ (∀ k, k < kL K → (h.1 42 k = nI (kK K k) ∧ kK K k < 5) ∧ h.1 43 k = nI (kP K k) ∧ kP K k < 10)
def shN' (K : KF) (x : Nat) : Nat := msk (fun k => near K k x) (kL K)
def CSt (K : KF) (h : Hp) : Prop := CS0 K h ∧ ∀ x, x < 10 → h.1 44 x = nI (shN' K x)
theorem abs_near {K : KF} {k x : Nat} {v : Int32} (hv : v = nI (kP K k)) (hp : kP K k < 10) (hr : kR K ≤ 9) (hx : x < 10) : decide ((if 0 ≤ v - nI x then v - nI x else 0 - (v - nI x)) ≤ nI (kR K)) = near K k x := by
  subst hv
  have e1 : (nI (kP K k) - nI x).toInt = (kP K k : Int) - x := pk_sub_toInt (by omega) (by omega)
  have e3 : (nI (kR K)).toInt = (kR K : Int) := nI_toI (by omega)
  have e4 : (0 - (nI (kP K k) - nI x)).toInt = x - (kP K k : Int) := by
    rw [Int32.toInt_sub, e1, show (0 : Int32).toInt = 0 from rfl]
    rw [Int.bmod_eq_of_le (by omega) (by omega)]
    omega
  unfold near
  rw [← Bool.decide_and]
  apply decide_eq_decide.mpr
  have e0 : (0 : Int32).toInt = 0 := rfl
  split
  · rename_i h1
    rw [Int32.le_iff_toInt_le, e1, e0] at h1
    rw [Int32.le_iff_toInt_le, e1, e3]
    omega
  · rename_i h1
    rw [Int32.le_iff_toInt_le, e1, e0] at h1
    rw [Int32.le_iff_toInt_le, e4, e3]
    omega
theorem ct_Strait_lightsInReach {K : KF} {h : Hp} (hs : CS0 K h) {x : Nat} (hx : x < 10) : Ct 1 md_Strait_lightsInReach [.ref 2, .int (nI x)] h (ex (.int (nI (shN' K x))) h) := by
  refine Ct_of 5 rfl rfl rfl (fun X C => ?_)
  obtain ⟨⟨s1, s2⟩, ⟨s3, s4⟩, -, s5⟩ := id hs
  have loop : ∀ (n i : Nat) (m b : Int32), i + n = kL K → m = nI (msk (fun k => near K k x) i) → b = nI i → V X 4 [some (.ref 2), some (.int (nI x)), some (.int m), some (.int b)] [] h := by
    intro n
    induction n with
    | zero =>
      intro i m b hi hm hb
      subst hb
      refine V_go C tk_Strait_lightsInReach [4] 48 ?_
      refine And.intro (fun c9 => ?_) (fun c9 => ?_)
      · exact ⟨by rw [hm, show i = kL K by omega]; rfl, rfl⟩
      · exact absurd (nle (by rw [s1]; congr 1; omega)) c9
    | succ n ih =>
      intro i m b hi hm hb
      subst hb
      have em : msk (fun k => near K k x) (i + 1) = msk (fun k => near K k x) i ||| (bif near K i x then 2 ^ i else 0) := rfl
      have en := abs_near (s5 i (by omega)).2.1 (s5 i (by omega)).2.2 s4 hx
      refine V_go C tk_Strait_lightsInReach [4] 48 ?_
      refine And.intro (fun c9 => ?_) (fun c9 => ?_)
      · exact absurd c9 (nge (by omega) (by omega) s1)
      · refine ⟨_, ⟨_, by decide, (ct_Row_at (r := 11) (a := 43) (n := 5) (by decide) rfl (by omega) h)⟩, fun r17 h17 p17 => ?_⟩
        obtain ⟨rfl, rfl⟩ := p17
        refine And.intro (fun c29 => ?_) (fun c29 => ?_)
        · rw [s3] at c29
          rw [decide_eq_false (fun h9 => absurd c29 (Int32.not_lt.mpr h9))] at en
          exact ih (i + 1) _ _ (by omega) (by rw [hm, em, ← en]; exact (fa_or _ 0).symm.trans (by rw [show nI 0 = 0 from rfl]; exact Int32.or_zero)|>.symm) (nI_1 i)
        · rw [s3] at c29
          rw [decide_eq_true (Int32.not_lt.mp c29)] at en
          exact ih (i + 1) _ _ (by omega) (by rw [hm, em, ← en, shl1 (by omega)]; exact fa_or _ _) (nI_1 i)
  refine V_go C tk_Strait_lightsInReach [4] 48 ?_
  exact loop (kL K) 0 _ _ (by omega) rfl rfl
def PCs (a _b : Nat) : Prop := a = 2 ∨ a = 42 ∨ a = 43 ∨ a = 44
theorem ct_Strait_read {p : Nat} {pg : Nat → Int32} {h : Hp} (hp : CP p pg h) (hok : ∀ j, j < p → ltOk (pg j) = true) (hn : stOk p pg = true) : Ct 4 md_Strait_read [.ref 2, .ref 1] h (fun r h' => r = none ∧ CSt (stK p pg) h' ∧ Fr PCs h h') := by
  refine Ct_of 5 rfl rfl rfl (fun X C => ?_)
  obtain ⟨⟨hpm, hp18⟩, hg⟩ := id hp
  obtain ⟨i, e0, e1, e2, e3, e4, e5, e6, e7, e8, e9, e10⟩ := st_facts hn hp18
  have eL : kL (stK p pg) = (p - 2) / 3 := rfl
  have loop2 : ∀ (n x : Nat) (b : Int32) (hh : Hp), x + n = 10 → b = nI x → CS0 (stK p pg) hh → (∀ y, y < x → hh.1 44 y = nI (shN' (stK p pg) y)) → Fr PCs h hh → V X 103 [some (.ref 2), some (.ref 1), some (.int b)] [] hh := by
    intro n
    induction n with
    | zero =>
      intro x b hh hx hb hs hy hf
      subst hb
      obtain rfl : x = 10 := by omega
      refine V_go C tk_Strait_read [46, 103] 93 ?_
      refine And.intro (fun c106 => ?_) (fun c106 => ?_)
      · exact ⟨rfl, ⟨hs, hy⟩, hf⟩
      · exact absurd (by decide) c106
    | succ n ih =>
      intro x b hh hx hb hs hy hf
      subst hb
      refine V_go C tk_Strait_read [46, 103] 93 ?_
      refine And.intro (fun c106 => ?_) (fun c106 => ?_)
      · exact absurd c106 (nI_ge (b := 10) (by omega) (by decide))
      · refine ⟨_, ⟨_, by decide, (ct_Strait_lightsInReach hs (by omega))⟩, fun r116 h116 p116 => ?_⟩
        obtain ⟨rfl, rfl⟩ := p116
        refine ⟨_, ⟨_, by decide, (ct_Row_put (r := 12) (a := 44) (n := 10) (by decide) rfl (by omega) _ _)⟩, fun r119 h119 p119 => ?_⟩
        obtain ⟨rfl, rfl⟩ := p119
        refine ih (x + 1) _ _ (by omega) (nI_1 x) (by simpa [CS0, up2] using hs) (fun y hy' => ?_) (hf.up (by unfold PCs; omega))
        by_cases h9 : y = x
        · subst h9; simp [up2]
        · simp [up2, h9]; exact hy y (by omega)
  have loop : ∀ (n k : Nat) (b : Int32) (hh : Hp), k + n = (p - 2) / 3 → b = nI k → hh.1 2 3 = nI ((p - 2) / 3) → hh.1 2 4 = nI (dig (pg (p - 2))) → hh.1 2 5 = nI (dig (pg (p - 1))) → (∀ q, q < k → hh.1 42 q = nI (kdN (pg (3 * q))) ∧ hh.1 43 q = nI (dig (pg (3 * q + 1)))) → Fr PCs h hh → V X 46 [some (.ref 2), some (.ref 1), some (.int b)] [] hh := by
    intro n
    induction n with
    | zero =>
      intro k b hh hk hb s7 s8 s9 hrw hf
      subst hb
      refine V_go C tk_Strait_read [46, 103] 93 ?_
      refine And.intro (fun c51 => ?_) (fun c51 => ?_)
      · refine loop2 10 0 _ _ rfl rfl ⟨⟨s7, e10⟩, ⟨s8, (dig_t e7).2⟩, ⟨s9, (dig_t (dgt1_t e8)).2⟩, fun q hq => ?_⟩ (fun y hy => absurd hy (Nat.not_lt_zero y)) hf
        have hq' : q < (p - 2) / 3 := hq
        obtain ⟨g1, g2⟩ := hrw q (by omega)
        exact ⟨⟨g1, (kd_t (e6 q hq').1).2⟩, g2, Nat.lt_succ_of_le (dig_t (e6 q hq').2).2⟩
      · exact absurd (nle (by rw [s7]; congr 1; omega)) c51
    | succ n ih =>
      intro k b hh hk hb s7 s8 s9 hrw hf
      subst hb
      have hk5 : k < (p - 2) / 3 := by omega
      have g1 : hh.1 41 (3 * k) = pg (3 * k) := by rw [hf.1 41 (3 * k) (by unfold PCs; omega)]; exact hg _ (by omega)
      have g2 : hh.1 41 (3 * k + 1) = pg (3 * k + 1) := by rw [hf.1 41 (3 * k + 1) (by unfold PCs; omega)]; exact hg _ (by omega)
      have hok1 := hok (3 * k) (by omega)
      have q1 := (kd_t (e6 k hk5).1).1
      have q2 := (dig_t (e6 k hk5).2).1
      refine V_go C tk_Strait_read [46, 103] 93 ?_
      refine And.intro (fun c51 => ?_) (fun c51 => ?_)
      · exact absurd c51 (nge (by omega) (by omega) s7)
      · refine ⟨_, ⟨_, by decide, (ct_Row_at (r := 9) (a := 41) (n := 18) (k := 3 * k) (by decide) (by exact pk_mul 3 k) (by omega) _)⟩, fun r68 h68 p68 => ?_⟩
        rw [g1] at p68
        obtain ⟨rfl, rfl⟩ := p68
        refine ⟨_, ⟨_, by decide, (ct_String_indexOf_I (chr hok1) hok1 _)⟩, fun r72 h72 p72 => ?_⟩
        obtain ⟨rfl, rfl⟩ := p72
        refine ⟨_, ⟨_, by decide, (ct_Row_put (r := 10) (a := 42) (n := 5) (by decide) rfl (by omega) _ _)⟩, fun r75 h75 p75 => ?_⟩
        obtain ⟨rfl, rfl⟩ := p75
        refine ⟨_, ⟨_, by decide, (ct_Page_digitAt (k := 3 * k + 1) (by rw [show (3 : Int32) = nI 3 from rfl, show (1 : Int32) = nI 1 from rfl]; exact ixm 3 1 k) (by omega) _)⟩, fun r89 h89 p89 => ?_⟩
        obtain ⟨rfl, rfl⟩ := p89
        refine ⟨_, ⟨_, by decide, (ct_Row_put (r := 11) (a := 43) (n := 5) (by decide) rfl (by omega) _ _)⟩, fun r92 h92 p92 => ?_⟩
        obtain ⟨rfl, rfl⟩ := p92
        refine ih (k + 1) _ _ (by omega) (nI_1 k) (by simp [up2]; exact s7) (by simp [up2]; exact s8) (by simp [up2]; exact s9) (fun q hq => ?_) ((hf.up (by unfold PCs; omega)).up (by unfold PCs; omega))
        by_cases h9 : q = k
        · subst h9
          simp [up2]
          exact ⟨q1, by rw [g2]; exact q2⟩
        · simp [up2, h9]
          exact hrw q (by omega)
  have ed : (h.1 1 1 - 2) / 3 = nI ((p - 2) / 3) := by
    rw [hpm, show nI p - 2 = nI (p - 2) from pk_sub (b := 2) (by omega)]
    exact pk_div (d := 3) (by omega) (by decide) (by decide)
  have em : (if (5 : Int32) > nI ((p - 2) / 3) then nI ((p - 2) / 3) else 5) = nI ((p - 2) / 3) := by
    split
    · rfl
    · rename_i h9
      have : (p - 2) / 3 = 5 := by
        rcases Nat.lt_or_ge ((p - 2) / 3) 5 with h8 | h8
        · exact absurd (nI_lt (b := 5) h8 (by decide)) h9
        · omega
      rw [this]; rfl
  refine V_go C tk_Strait_read [46, 103] 93 ?_
  refine And.intro (by decide) ?_
  refine ⟨_, ⟨_, by decide, (ct_Page_digitAt (k := p - 2) (by simp [up2]; rw [hpm]; exact pk_sub (b := 2) (by omega)) (by omega) _)⟩, fun r24 h24 p24 => ?_⟩
  obtain ⟨rfl, rfl⟩ := p24
  refine ⟨_, ⟨_, by decide, (ct_Page_digitAt (k := p - 1) (by simp [up2]; rw [hpm]; exact pk_sub (b := 1) (by omega)) (by omega) _)⟩, fun r38 h38 p38 => ?_⟩
  obtain ⟨rfl, rfl⟩ := p38
  refine loop ((p - 2) / 3) 0 _ _ (by omega) rfl (by simp [up2]; rw [ed]; exact em) (by simp [up2]; rw [hg _ (by omega)]; exact (dig_t e7).1) (by simp [up2]; rw [hg _ (by omega)]; exact (dig_t (dgt1_t e8)).1) (fun q hq => absurd hq (Nat.not_lt_zero q)) (((Fr.rf.up (by unfold PCs; omega)).up (by unfold PCs; omega)).up (by unfold PCs; omega))
