/-! ===== the class: numbers of the JDK, statics ===== -/
theorem usN {n : Nat} (hn : n < 4294967296) (s : Int32) (k p : Nat) (hs : ((s.toUInt32 &&& Int32.toUInt32 31).toBitVec % 32).toNat = k) (hp : 2 ^ k = p) : ((nI n).toUInt32 >>> (s.toUInt32 &&& Int32.toUInt32 31)).toInt32 = nI (n / p) := by
  subst hp
  exact pk_ushrN hn s k hs
theorem ct_Integer_bitCount {b : Nat} {x : Int32} (hx : x = nI b) (hb : b < 65536) (h : Hp) : Ct 0 md_Integer_bitCount [.int x] h (ex (.int (nI (pc16 b))) h) := by
  subst hx
  refine Ct_of 9 rfl rfl rfl (fun X C => ?_)
  have la : (b / 2) &&& 1431655765 ≤ b / 2 := Nat.and_le_left
  have e1 : nI b - (((nI b).toUInt32 >>> ((1 : Int32).toUInt32 &&& Int32.toUInt32 31)).toInt32 &&& 1431655765) = nI (b - ((b / 2) &&& 1431655765)) := by
    rw [usN (by omega) 1 1 2 rfl rfl, show (1431655765 : Int32) = nI 1431655765 from rfl, fa_and]
    exact pk_sub (by omega)
  have e2 : ∀ a : Nat, a < 65536 → (nI a &&& 858993459) + (((nI a).toUInt32 >>> ((2 : Int32).toUInt32 &&& Int32.toUInt32 31)).toInt32 &&& 858993459) = nI ((a &&& 858993459) + ((a / 4) &&& 858993459)) := by
    intro a ha
    rw [usN (by omega) 2 2 4 rfl rfl, show (858993459 : Int32) = nI 858993459 from rfl, fa_and, fa_and, nI_add]
  have e3 : ∀ a : Nat, a < 1000000 → (nI a + ((nI a).toUInt32 >>> ((4 : Int32).toUInt32 &&& Int32.toUInt32 31)).toInt32) &&& 252645135 = nI ((a + a / 16) &&& 252645135) := by
    intro a ha
    rw [usN (by omega) 4 4 16 rfl rfl, show (252645135 : Int32) = nI 252645135 from rfl, nI_add, fa_and]
  have e4 : ∀ a : Nat, a < 10000000 → nI a + ((nI a).toUInt32 >>> ((8 : Int32).toUInt32 &&& Int32.toUInt32 31)).toInt32 = nI (a + a / 256) := by
    intro a ha
    rw [usN (by omega) 8 8 256 rfl rfl, nI_add]
  have e5 : ∀ a : Nat, a < 100000000 → nI a + ((nI a).toUInt32 >>> ((16 : Int32).toUInt32 &&& Int32.toUInt32 31)).toInt32 = nI (a + a / 65536) := by
    intro a ha
    rw [usN (by omega) 16 16 65536 rfl rfl, nI_add]
  have hn := bc_all hb
  have b1 : b - ((b / 2) &&& 1431655765) < 65536 := by omega
  generalize ha : b - ((b / 2) &&& 1431655765) = a at *
  have b2a : a &&& 858993459 ≤ a := Nat.and_le_left
  have b2b : (a / 4) &&& 858993459 ≤ a / 4 := Nat.and_le_left
  have b2 : (a &&& 858993459) + ((a / 4) &&& 858993459) < 1000000 := by omega
  generalize hb' : (a &&& 858993459) + ((a / 4) &&& 858993459) = b' at *
  have b3a : (b' + b' / 16) &&& 252645135 ≤ b' + b' / 16 := Nat.and_le_left
  have b3 : (b' + b' / 16) &&& 252645135 < 10000000 := by omega
  generalize hc' : (b' + b' / 16) &&& 252645135 = c' at *
  have fin : nI (bcN b) = nI ((c' + c' / 256 + (c' + c' / 256) / 65536) &&& 63) := by
    show nI ((((((((b - ((b / 2) &&& 1431655765)) &&& 858993459) + (((b - ((b / 2) &&& 1431655765)) / 4) &&& 858993459)) + (((b - ((b / 2) &&& 1431655765)) &&& 858993459) + (((b - ((b / 2) &&& 1431655765)) / 4) &&& 858993459)) / 16) &&& 252645135) + (((((b - ((b / 2) &&& 1431655765)) &&& 858993459) + (((b - ((b / 2) &&& 1431655765)) / 4) &&& 858993459)) + (((b - ((b / 2) &&& 1431655765)) &&& 858993459) + (((b - ((b / 2) &&& 1431655765)) / 4) &&& 858993459)) / 16) &&& 252645135) / 256) + ((((((b - ((b / 2) &&& 1431655765)) &&& 858993459) + (((b - ((b / 2) &&& 1431655765)) / 4) &&& 858993459)) + (((b - ((b / 2) &&& 1431655765)) &&& 858993459) + (((b - ((b / 2) &&& 1431655765)) / 4) &&& 858993459)) / 16) &&& 252645135) + (((((b - ((b / 2) &&& 1431655765)) &&& 858993459) + (((b - ((b / 2) &&& 1431655765)) / 4) &&& 858993459)) + (((b - ((b / 2) &&& 1431655765)) &&& 858993459) + (((b - ((b / 2) &&& 1431655765)) / 4) &&& 858993459)) / 16) &&& 252645135) / 256) / 65536) &&& 63) = _
    rw [ha, hb', hc']
  refine V_go C tk_Integer_bitCount [] 62 ?_
  refine ⟨?_, rfl⟩
  rw [← hn, fin, e1, e2 a b1, hb', e3 b' b2, hc', e4 c' b3, e5 _ (by omega), show (63 : Int32) = nI 63 from rfl, fa_and]
def us (x k : Int32) : Int32 := (x.toUInt32 >>> (k.toUInt32 &&& Int32.toUInt32 31)).toInt32
def nt2 (n y : Int32) : Int32 := if y ≤ 4 then n + us y 1 else (n + 2) + us (us y 2) 1
def nt4 (n y : Int32) : Int32 := if y ≤ 16 then nt2 n y else nt2 (n + 4) (us y 4)
def nt8 (n y : Int32) : Int32 := if y ≤ 256 then nt4 n y else nt4 (n + 8) (us y 8)
def nt16 (n y : Int32) : Int32 := if y ≤ 65536 then nt8 n y else nt8 (n + 16) (us y 16)
def ntF (y : Int32) : Int32 := if 0 < y then nt16 1 y else y &&& 32
theorem ntF_ok : ∀ k : Fin 16, ntF (nI (2 ^ k.val - 1)) = nI k.val := by decide +kernel
theorem ct_Integer_numberOfTrailingZeros {b : Nat} {x : Int32} (hx : x = nI b) (h0 : b ≠ 0) (hb : b < 65536) (h : Hp) : Ct 0 md_Integer_numberOfTrailingZeros [.int x] h (ex (.int (nI (tzK 16 b))) h) := by
  subst hx
  refine Ct_of 9 rfl rfl rfl (fun X C => ?_)
  obtain ⟨t1, -, -⟩ := tz_spec 16 b hb h0
  have e1 : (nI b ^^^ -1) &&& (nI b - 1) = nI (2 ^ (tzK 16 b) - 1) := by
    have h1 : nI b - 1 = nI (b - 1) := pk_sub (b := 1) (by omega)
    rw [h1, Int32.and_comm, and_not (by omega) hb, tz_all h0 hb]
  have hR : ntF ((nI b ^^^ -1) &&& (nI b - 1)) = nI (tzK 16 b) := by
    rw [e1]
    exact ntF_ok ⟨tzK 16 b, t1⟩
  have L74 : ∀ n y : Int32, n + us y 1 = nI (tzK 16 b) → V X 74 [some (.int y), some (.int n)] [] h := by
    intro n y hr
    refine V_go C tk_Integer_numberOfTrailingZeros [] 74 ?_
    exact ⟨by rw [← hr]; rfl, rfl⟩
  have L62 : ∀ n y : Int32, nt2 n y = nI (tzK 16 b) → V X 62 [some (.int y), some (.int n)] [] h := by
    intro n y hr
    unfold nt2 at hr
    refine V_go C tk_Integer_numberOfTrailingZeros [74] 74 ?_
    refine And.intro (fun c64 => ?_) (fun c64 => ?_)
    · rw [if_pos c64] at hr
      exact L74 _ _ hr
    · rw [if_neg c64] at hr
      exact L74 _ _ hr
  have L49 : ∀ n y : Int32, nt4 n y = nI (tzK 16 b) → V X 49 [some (.int y), some (.int n)] [] h := by
    intro n y hr
    unfold nt4 at hr
    refine V_go C tk_Integer_numberOfTrailingZeros [62] 74 ?_
    refine And.intro (fun c52 => ?_) (fun c52 => ?_)
    · rw [if_pos c52] at hr
      exact L62 _ _ hr
    · rw [if_neg c52] at hr
      exact L62 _ _ hr
  have L34 : ∀ n y : Int32, nt8 n y = nI (tzK 16 b) → V X 34 [some (.int y), some (.int n)] [] h := by
    intro n y hr
    unfold nt8 at hr
    refine V_go C tk_Integer_numberOfTrailingZeros [49] 74 ?_
    refine And.intro (fun c38 => ?_) (fun c38 => ?_)
    · rw [if_pos c38] at hr
      exact L49 _ _ hr
    · rw [if_neg c38] at hr
      exact L49 _ _ hr
  have L8 : ∀ (y : Int32) (r1 : Option Value), ntF y = nI (tzK 16 b) → V X 8 [some (.int y), r1] [] h := by
    intro y r1 hr
    unfold ntF at hr
    refine V_go C tk_Integer_numberOfTrailingZeros [34] 74 ?_
    refine And.intro (fun c9 => ?_) (fun c9 => ?_)
    · refine And.intro (fun c23 => ?_) (fun c23 => ?_)
      · rw [if_pos c9] at hr
        unfold nt16 at hr
        rw [if_pos c23] at hr
        exact L34 _ _ hr
      · rw [if_pos c9] at hr
        unfold nt16 at hr
        rw [if_neg c23] at hr
        exact L34 _ _ hr
    · rw [if_neg c9] at hr
      exact ⟨by rw [← hr], rfl⟩
  refine V_go C tk_Integer_numberOfTrailingZeros [8] 74 ?_
  exact L8 _ _ hR
/-! statics of the class -/
theorem ct_GD_isTrue (w f : Int32) (t : Bool) (h : Hp) : Ct 0 md_GD_isTrue [.int w, .int f, .int (tI t)] h (ex (.int (tI (decide (((w >>> (f &&& 31)) &&& 1) = 1) != t))) h) := by
  refine Ct_of 6 rfl rfl rfl (fun X C => ?_)
  refine V_go C tk_GD_isTrue [] 38 ?_
  refine And.intro (fun c6 => ?_) (fun c6 => ?_)
  · refine And.intro (fun c17 => ?_) (fun c17 => ?_)
    · exact ⟨by decide, by rw [decide_eq_false c6]; rw [eq_comm, tI_0] at c17; rw [c17]; rfl, rfl⟩
    · exact ⟨by decide, by rw [decide_eq_false c6]; rw [eq_comm, tI_n] at c17; rw [c17]; rfl, rfl⟩
  · refine And.intro (fun c17 => ?_) (fun c17 => ?_)
    · exact ⟨by decide, by rw [decide_eq_true c6]; rw [eq_comm, tI_1] at c17; rw [c17]; rfl, rfl⟩
    · exact ⟨by decide, by rw [decide_eq_true c6]; rw [eq_comm, tI_1] at c17; rw [eq_false_of_ne_true c17]; rfl, rfl⟩
theorem ct_GD_isTrueN {w f : Nat} {x y : Int32} (hy : y = nI w) (hx : x = nI f) (hw : w < 16) (hf : f < 4) (t : Bool) (h : Hp) : Ct 0 md_GD_isTrue [.int y, .int x, .int (tI t)] h (ex (.int (tI (w.testBit f != t))) h) := by
  have h1 := ct_GD_isTrue (nI w) (nI f) t h
  rw [bitW hw hf] at h1
  rw [hx, hy]
  exact h1
theorem ct_GD_saysYes (kd : Int32) (t : Bool) (br : Int32) (h : Hp) : Ct 0 md_GD_saysYes [.int kd, .int (tI t), .int br] h (ex (.int (tI (sayF kd t br))) h) := by
  refine Ct_of 6 rfl rfl rfl (fun X C => ?_)
  refine V_go C tk_GD_saysYes [] 45 ?_
  refine And.intro (fun c1 => ?_) (And.intro (fun c1 => ?_) (And.intro (fun c1 => ?_) (And.intro (fun c1 => ?_) (And.intro (fun c1 => ?_) trivial))))
  · exact ⟨tI_01 t, by unfold sayF; rw [decide_eq_false (sw_out c1 (by decide) (by decide) : ¬ kd = 1), decide_eq_false (sw_out c1 (by decide) (by decide) : ¬ kd = 3), decide_eq_false (sw_out c1 (by decide) (by decide) : ¬ kd = 4)]; cases t <;> rfl, rfl⟩
  · exact ⟨by decide, by rw [c1]; rfl, rfl⟩
  · exact ⟨tI_01 t, by rw [c1]; cases t <;> rfl, rfl⟩
  · refine And.intro (fun c35 => ?_) (fun c35 => ?_)
    · rw [tI_n] at c35
      exact ⟨by decide, by rw [c1, c35]; rfl, rfl⟩
    · rw [tI_0] at c35
      exact ⟨by decide, by rw [c1, c35]; rfl, rfl⟩
  · refine And.intro (by decide) ?_
    refine And.intro (fun c48 => ?_) (fun c48 => ?_)
    · refine And.intro (fun c56 => ?_) (fun c56 => ?_)
      · rw [tI_n] at c56
        exact ⟨by decide, by unfold sayF; rw [c1, c56, decide_eq_true c48]; rfl, rfl⟩
      · rw [tI_0] at c56
        exact ⟨by decide, by unfold sayF; rw [c1, c56, decide_eq_true c48]; rfl, rfl⟩
    · refine And.intro (fun c56 => ?_) (fun c56 => ?_)
      · rw [tI_1] at c56
        exact ⟨by decide, by unfold sayF; rw [c1, eq_false_of_ne_true c56, decide_eq_false c48]; rfl, rfl⟩
      · rw [tI_1] at c56
        exact ⟨by decide, by unfold sayF; rw [c1, c56, decide_eq_false c48]; rfl, rfl⟩
theorem ct_GD_isOfKind (of kind : Int32) (h : Hp) : Ct 0 md_GD_isOfKind [.int of, .int kind] h (ex (.int (tI (asB of kind))) h) := by
  refine Ct_of 6 rfl rfl rfl (fun X C => ?_)
  refine V_go C tk_GD_isOfKind [] 35 ?_
  refine And.intro (fun c1 => ?_) (fun c1 => ?_)
  · exact ⟨by decide, by simp_all [asB, tI], rfl⟩
  · refine And.intro (fun c6 => ?_) (fun c6 => ?_)
    · exact ⟨by decide, by simp_all [asB, tI], rfl⟩
    · refine And.intro (fun c11 => ?_) (fun c11 => ?_)
      · exact ⟨by decide, by simp_all [asB, tI], rfl⟩
      · refine And.intro (fun c16 => ?_) (fun c16 => ?_)
        · exact ⟨by decide, by simp_all [asB, tI], rfl⟩
        · exact ⟨by decide, by simp_all [asB, tI], rfl⟩
theorem inR_lt {k : Int32} {L : Nat} {M : Int32} (hM : M.toInt = (L : Int)) : (decide (0 ≤ k) && decide (k < M)) = inR k L := by
  unfold inR
  simp only [Int32.le_iff_toInt_le, Int32.lt_iff_toInt_lt, hM]
  rw [show (0 : Int32).toInt = 0 from rfl]
theorem rng3 {k M : Int32} : (k < 0 → (decide (0 ≤ k) && decide (k < M)) = false) ∧ (¬ k < 0 → M ≤ k → (decide (0 ≤ k) && decide (k < M)) = false) ∧ (¬ k < 0 → ¬ M ≤ k → (decide (0 ≤ k) && decide (k < M)) = true) := by
  refine ⟨fun h => ?_, fun h1 h2 => ?_, fun h1 h2 => ?_⟩
  · rw [decide_eq_false (Int32.not_le.mpr h)]; rfl
  · rw [decide_eq_false (Int32.not_lt.mpr h2), Bool.and_false]
  · rw [decide_eq_true (Int32.not_lt.mp h1), decide_eq_true (Int32.not_le.mp h2)]; rfl
theorem ct_GD_isPlace (x : Int32) (h : Hp) : Ct 0 md_GD_isPlace [.int x] h (ex (.int (tI (inR x 10))) h) := by
  rw [← inR_lt (L := 10) (M := 10) rfl]
  refine Ct_of 6 rfl rfl rfl (fun X C => ?_)
  refine V_go C tk_GD_isPlace [] 29 ?_
  refine And.intro (fun c1 => ?_) (fun c1 => ?_)
  · exact ⟨by decide, by rw [rng3.1 c1]; rfl, rfl⟩
  · refine And.intro (fun c7 => ?_) (fun c7 => ?_)
    · exact ⟨by decide, by rw [rng3.2.1 c1 c7]; rfl, rfl⟩
    · exact ⟨by decide, by rw [rng3.2.2 c1 c7]; rfl, rfl⟩
theorem ct_GD_isFact (x : Int32) (h : Hp) : Ct 0 md_GD_isFact [.int x] h (ex (.int (tI (inR x 4))) h) := by
  rw [← inR_lt (L := 4) (M := 4) rfl]
  refine Ct_of 6 rfl rfl rfl (fun X C => ?_)
  refine V_go C tk_GD_isFact [] 29 ?_
  refine And.intro (fun c1 => ?_) (fun c1 => ?_)
  · exact ⟨by decide, by rw [rng3.1 c1]; rfl, rfl⟩
  · refine And.intro (fun c6 => ?_) (fun c6 => ?_)
    · exact ⟨by decide, by rw [rng3.2.1 c1 c6]; rfl, rfl⟩
    · exact ⟨by decide, by rw [rng3.2.2 c1 c6]; rfl, rfl⟩
theorem ct_Strait_hasLight {L : Nat} {h : Hp} (hL : h.1 2 3 = nI L) (hL5 : L ≤ 5) (x : Int32) : Ct 0 md_Strait_hasLight [.ref 2, .int x] h (ex (.int (tI (inR x L))) h) := by
  rw [← inR_lt (L := L) (M := h.1 2 3) (by rw [hL]; exact nI_toI (by omega))]
  refine Ct_of 5 rfl rfl rfl (fun X C => ?_)
  refine V_go C tk_Strait_hasLight [] 30 ?_
  refine And.intro (fun c1 => ?_) (fun c1 => ?_)
  · exact ⟨by decide, by rw [rng3.1 c1]; rfl, rfl⟩
  · refine And.intro (fun c9 => ?_) (fun c9 => ?_)
    · exact ⟨by decide, by rw [rng3.2.1 c1 c9]; rfl, rfl⟩
    · exact ⟨by decide, by rw [rng3.2.2 c1 c9]; rfl, rfl⟩
def PDc (a b : Nat) : Prop := a = 8 ∧ b = 0
theorem ct_Draws_draw {h : Hp} {b : Nat} {y : Int32} (hy : y = nI b) (hb : 0 < b) (hb9 : b < 1000) : Ct 0 md_Draws_draw [.ref 8, .int y] h (fun r h' => r = some (.int (nI (drw (sdF (h.1 8 0)) b))) ∧ h'.1 8 0 = sdF (h.1 8 0) ∧ Fr PDc h h') := by
  subst hy
  refine Ct_of 0 rfl rfl rfl (fun X C => ?_)
  refine V_go C tk_Draws_draw [] 43 ?_
  refine And.intro (fun c23 => ?_) (fun c23 => ?_)
  · exact absurd c23 (nI_nle hb (by omega))
  · refine And.intro (by decide) ?_
    refine And.intro (by intro h9; exact absurd h9 (nI_ne0 hb (by omega))) ?_
    refine ⟨?_, up2_s h.1 8 0 (sdF (h.1 8 0)), Fr.rf.up (by unfold PDc; omega)⟩
    rw [← drw_eq _ hb hb9]
    show some (Value.int (up2 h.1 8 0 (sdF (h.1 8 0)) 8 0 / 65536 - up2 h.1 8 0 (sdF (h.1 8 0)) 8 0 / 65536 / nI b * nI b)) = _
    rw [up2_s]
