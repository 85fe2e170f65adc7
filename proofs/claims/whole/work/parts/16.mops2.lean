/-! ===== the reference: facts, ships, the page, what was heard, counts ===== -/
def factV (K : KF) (F : Nat) (f : Int32) : Int32 := if inR f 4 then (if kL K = 0 then -103 else tI (F.testBit f.toNatClampNeg)) else -101
def factF (K : KF) (F : Nat) (f : Int32) (is : Bool) : Nat := if inR f 4 && !(decide (kL K = 0)) then (bif is then F ||| 2 ^ f.toNatClampNeg else F &&& (15 - 2 ^ f.toNatClampNeg)) else F
theorem bit_set : ∀ F : Fin 16, ∀ f : Fin 4, (nI F.val ||| ((1 : Int32) <<< (nI f.val &&& 31))) = nI (F.val ||| 2 ^ f.val) ∧ (nI F.val &&& (((1 : Int32) <<< (nI f.val &&& 31)) ^^^ -1)) = nI (F.val &&& (15 - 2 ^ f.val)) ∧ (F.val ||| 2 ^ f.val) < 16 ∧ (F.val &&& (15 - 2 ^ f.val)) < 16 ∧ ((nI F.val >>> (nI f.val &&& 31)) &&& 1) = tI (F.val.testBit f.val) := by decide +kernel
theorem bit_set' {F f : Nat} (hF : F < 16) (hf : f < 4) : (nI F ||| ((1 : Int32) <<< (nI f &&& 31))) = nI (F ||| 2 ^ f) ∧ (nI F &&& (((1 : Int32) <<< (nI f &&& 31)) ^^^ -1)) = nI (F &&& (15 - 2 ^ f)) ∧ (F ||| 2 ^ f) < 16 ∧ (F &&& (15 - 2 ^ f)) < 16 ∧ ((nI F >>> (nI f &&& 31)) &&& 1) = tI (F.testBit f) := bit_set ⟨F, hF⟩ ⟨f, hf⟩
theorem RN.u10 {K : KF} {A : AS} {q3 q4 : Nat → Int32} {F F' : Nat} {h : Hp} {x : Int32} (a : RN K A q3 q4 F h) (hx : x = nI F') (hF : F' < 16) : RN K A q3 q4 F' (up2 h.1 73 10 x, h.2) := by
  obtain ⟨⟨s1, s2, s3, s4, s5, s6⟩, ⟨d1, d2, d3⟩, a3, a4, a5⟩ := a
  subst hx
  refine ⟨⟨by simp [up2]; exact s1, by simp [up2]; exact s2, by simp [up2]; exact s3, fun k hk => by have := s4 k hk; simp [up2]; exact this, by simp [up2]; exact s5, fun s hs => by have := s6 s hs; simp [up2]; exact this⟩, ⟨fun k hk => by have := d1 k hk; simp [up2]; exact this, fun s hs => by have := d2 s hs; simp [up2]; exact this, by simp [up2]; exact d3⟩, fun k hk => by have := a3 k hk; simp [up2]; exact this, by simp [up2], hF⟩
theorem ct_M_fact {K : KF} {A : AS} {q3 q4 : Nat → Int32} {F : Nat} {h : Hp} (hr : RN K A q3 q4 F h) (f : Int32) (is : Bool) : Ct 2 md_M_fact [.ref 73, .int f, .int (tI is)] h (fun r h' => r = some (.int (factV K F f)) ∧ RN K A q3 q4 (factF K F f is) h' ∧ Fr PN h h') := by
  refine Ct_of 7 rfl rfl rfl (fun X C => ?_)
  cases hin : inR f 4 with
  | false =>
    refine V_go C tk_M_fact [] 58 ?_
    refine ⟨_, ⟨_, by decide, (ct_M_isFactR f h)⟩, fun r1 h1 p1 => ?_⟩
    obtain ⟨rfl, rfl⟩ := p1
    refine And.intro (fun c4 => ?_) (fun c4 => ?_)
    · rw [hin] at c4; exact absurd rfl c4
    · exact ⟨by unfold factV; rw [hin]; rfl, by unfold factF; rw [hin]; exact hr, Fr.rf⟩
  | true =>
  obtain ⟨g, hg, rfl⟩ := inR_t hin
  have eg := nIc (i := g) (by omega)
  by_cases hl0 : kL K = 0
  · skip
    refine V_go C tk_M_fact [] 58 ?_
    refine ⟨_, ⟨_, by decide, (ct_M_isFactR (nI g) h)⟩, fun r1 h1 p1 => ?_⟩
    obtain ⟨rfl, rfl⟩ := p1
    refine And.intro (fun c4 => ?_) (fun c4 => ?_)
    · refine ⟨_, ⟨_, by decide, (ct_M_lacksR hr.1)⟩, fun r11 h11 p11 => ?_⟩
      obtain ⟨rfl, rfl⟩ := p11
      refine And.intro (fun c14 => ?_) (fun c14 => ?_)
      · rw [decide_eq_true hl0] at c14; exact absurd c14 (by decide)
      · exact ⟨by unfold factV; rw [hin, if_pos hl0]; rfl, by unfold factF; rw [decide_eq_true hl0, Bool.not_true, Bool.and_false]; exact hr, Fr.rf⟩
    · rw [hin] at c4; exact absurd c4 (by decide)
  · obtain ⟨b1, b2, b3, b4, b5⟩ := bit_set' hr.2.2.2.2 hg
    have hF := hr.2.2.2.1
    have ev : factV K F (nI g) = tI (F.testBit g) := by unfold factV; rw [hin, if_neg hl0, eg]; rfl
    have eF : factF K F (nI g) is = bif is then F ||| 2 ^ g else F &&& (15 - 2 ^ g) := by unfold factF; rw [hin, decide_eq_false hl0, eg]; rfl
    rw [ev, eF] at C
    refine V_go C tk_M_fact [] 58 ?_
    refine ⟨_, ⟨_, by decide, (ct_M_isFactR (nI g) h)⟩, fun r1 h1 p1 => ?_⟩
    obtain ⟨rfl, rfl⟩ := p1
    refine And.intro (fun c4 => ?_) (fun c4 => ?_)
    · refine ⟨_, ⟨_, by decide, (ct_M_lacksR hr.1)⟩, fun r11 h11 p11 => ?_⟩
      obtain ⟨rfl, rfl⟩ := p11
      refine And.intro (fun c14 => ?_) (fun c14 => ?_)
      · refine And.intro (fun c31 => ?_) (fun c31 => ?_)
        · rw [tI_0] at c31
          subst c31
          exact ⟨by rw [hF, b5], hr.u10 (by rw [hF]; exact b2) b4, Fr.rf.up (by unfold PN; omega)⟩
        · rw [tI_n] at c31
          subst c31
          exact ⟨by rw [hF, b5], hr.u10 (by rw [hF]; exact b1) b3, Fr.rf.up (by unfold PN; omega)⟩
      · rw [decide_eq_false hl0] at c14; exact absurd rfl c14
    · rw [hin] at c4; exact absurd c4 (by decide)
/-- ships -/
def shV (K : KF) (x c : Int32) : Int32 := if inR x 10 then (if inR (c + 1) 3 then (if kL K = 0 then -103 else if kN K = 3 then -104 else nI (kN K)) else -102) else -101
def shQ (K : KF) (x c : Int32) : Bool := inR x 10 && inR (c + 1) 3 && !(decide (kL K = 0)) && !(decide (kN K = 3))
def shK (K : KF) (x c : Int32) : KF := bif shQ K x c then (kL K, kR K, kD K, kP K, kK K, kN K + 1, fun s => if s = kN K then c.toInt else kC K s) else K
def shA (K : KF) (A : AS) (x c : Int32) : AS := bif shQ K x c then (aD A, fun s => if s = kN K then x.toNatClampNeg else aP A s, fun s => if s = kN K then 0 else aQ A s, aB A) else A
theorem crs_in (c : Int32) : (decide (-1 ≤ c) && decide (c ≤ 1)) = inR (c + 1) 3 := by
  have h1 : ∀ x : Int, -2147483648 ≤ x → x < 2147483648 → ((x + 1).bmod 4294967296 = if x = 2147483647 then -2147483648 else x + 1) := by
    intro x hx1 hx2
    split
    · rename_i h; subst h; rfl
    · exact Int.bmod_eq_of_le (by omega) (by omega)
  have h2 : (c + 1).toInt = (c.toInt + 1).bmod 4294967296 := by rw [Int32.toInt_add]; rfl
  have l1 := Int32.le_toInt c
  have l2 := Int32.toInt_lt c
  unfold inR
  simp only [Int32.le_iff_toInt_le, h2]
  rw [h1 _ (by omega) (by omega), ← Bool.decide_and, ← Bool.decide_and]
  apply decide_eq_decide.mpr
  rw [show (-1 : Int32).toInt = -1 from rfl, show (1 : Int32).toInt = 1 from rfl]
  split <;> omega
theorem ct_M_ship {K : KF} {A : AS} {q3 q4 : Nat → Int32} {F : Nat} {h : Hp} (hr : RN K A q3 q4 F h) (x c : Int32) : Ct 1 md_M_ship [.ref 73, .int x, .int c] h (fun r h' => r = some (.int (shV K x c)) ∧ RN (shK K x c) (shA K A x c) q3 q4 F h' ∧ Fr PN h h') := by
  refine Ct_of 7 rfl rfl rfl (fun X C => ?_)
  have ex10 : (decide (0 ≤ x) && decide (x ≤ 9)) = inR x 10 := inR_c (L := 10) rfl
  have ec3 := crs_in c
  have hN := hr.1.2.2.2.2.1
  have en3 : h.1 73 14 = 3 ↔ kN K = 3 := by rw [hN.1]; exact nI_eq (b := 3) (by omega) (by decide)
  have out : shQ K x c = false → shK K x c = K ∧ shA K A x c = A := by intro hq; unfold shK shA; rw [hq]; exact ⟨rfl, rfl⟩
  cases hx : inR x 10 with
  | false =>
    obtain ⟨o1, o2⟩ := out (by unfold shQ; rw [hx]; rfl)
    rw [o1, o2] at C
    refine V_go C tk_M_ship [] 86 ?_
    refine ⟨_, ⟨_, by decide, (ct_M_in32 x 0 9 h)⟩, fun r6 h6 p6 => ?_⟩
    obtain ⟨rfl, rfl⟩ := p6
    refine And.intro (fun c9 => ?_) (fun c9 => ?_)
    · rw [ex10, hx] at c9; exact absurd rfl c9
    · exact ⟨by unfold shV; rw [hx]; rfl, hr, Fr.rf⟩
  | true =>
  cases hc : inR (c + 1) 3 with
  | false =>
    obtain ⟨o1, o2⟩ := out (by unfold shQ; rw [hx, hc]; rfl)
    rw [o1, o2] at C
    refine V_go C tk_M_ship [] 86 ?_
    refine ⟨_, ⟨_, by decide, (ct_M_in32 x 0 9 h)⟩, fun r6 h6 p6 => ?_⟩
    obtain ⟨rfl, rfl⟩ := p6
    refine And.intro (fun c9 => ?_) (fun c9 => ?_)
    · refine ⟨_, ⟨_, by decide, (ct_M_in32 c (-1) 1 h)⟩, fun r21 h21 p21 => ?_⟩
      obtain ⟨rfl, rfl⟩ := p21
      refine And.intro (fun c24 => ?_) (fun c24 => ?_)
      · rw [ec3, hc] at c24; exact absurd rfl c24
      · exact ⟨by unfold shV; rw [hx, hc]; rfl, hr, Fr.rf⟩
    · rw [ex10, hx] at c9; exact absurd c9 (by decide)
  | true =>
  by_cases hl0 : kL K = 0
  · obtain ⟨o1, o2⟩ := out (by unfold shQ; rw [hx, hc, decide_eq_true hl0]; rfl)
    rw [o1, o2] at C
    refine V_go C tk_M_ship [] 86 ?_
    refine ⟨_, ⟨_, by decide, (ct_M_in32 x 0 9 h)⟩, fun r6 h6 p6 => ?_⟩
    obtain ⟨rfl, rfl⟩ := p6
    refine And.intro (fun c9 => ?_) (fun c9 => ?_)
    · refine ⟨_, ⟨_, by decide, (ct_M_in32 c (-1) 1 h)⟩, fun r21 h21 p21 => ?_⟩
      obtain ⟨rfl, rfl⟩ := p21
      refine And.intro (fun c24 => ?_) (fun c24 => ?_)
      · refine ⟨_, ⟨_, by decide, (ct_M_lacksR hr.1)⟩, fun r31 h31 p31 => ?_⟩
        obtain ⟨rfl, rfl⟩ := p31
        refine And.intro (fun c34 => ?_) (fun c34 => ?_)
        · rw [decide_eq_true hl0] at c34; exact absurd c34 (by decide)
        · exact ⟨by unfold shV; rw [hx, hc, if_pos hl0]; rfl, hr, Fr.rf⟩
      · rw [ec3, hc] at c24; exact absurd c24 (by decide)
    · rw [ex10, hx] at c9; exact absurd c9 (by decide)
  by_cases hn3 : kN K = 3
  · obtain ⟨o1, o2⟩ := out (by unfold shQ; rw [hx, hc, decide_eq_false hl0, decide_eq_true hn3]; rfl)
    rw [o1, o2] at C
    refine V_go C tk_M_ship [] 86 ?_
    refine ⟨_, ⟨_, by decide, (ct_M_in32 x 0 9 h)⟩, fun r6 h6 p6 => ?_⟩
    obtain ⟨rfl, rfl⟩ := p6
    refine And.intro (fun c9 => ?_) (fun c9 => ?_)
    · refine ⟨_, ⟨_, by decide, (ct_M_in32 c (-1) 1 h)⟩, fun r21 h21 p21 => ?_⟩
      obtain ⟨rfl, rfl⟩ := p21
      refine And.intro (fun c24 => ?_) (fun c24 => ?_)
      · refine ⟨_, ⟨_, by decide, (ct_M_lacksR hr.1)⟩, fun r31 h31 p31 => ?_⟩
        obtain ⟨rfl, rfl⟩ := p31
        refine And.intro (fun c34 => ?_) (fun c34 => ?_)
        · refine And.intro (fun c45 => ?_) (fun c45 => ?_)
          · exact absurd (en3.mpr hn3) c45
          · exact ⟨by unfold shV; rw [hx, hc, if_neg hl0, if_pos hn3]; rfl, hr, Fr.rf⟩
        · rw [decide_eq_false hl0] at c34; exact absurd rfl c34
      · rw [ec3, hc] at c24; exact absurd c24 (by decide)
    · rw [ex10, hx] at c9; exact absurd c9 (by decide)
  · have hq : shQ K x c = true := by unfold shQ; rw [hx, hc, decide_eq_false hl0, decide_eq_false hn3]; rfl
    obtain ⟨y, hy, rfl⟩ := inR_t hx
    have ey := nIc (i := y) (by omega)
    have hc1 : -1 ≤ c.toInt ∧ c.toInt ≤ 1 := by
      rw [hc, Bool.and_eq_true, decide_eq_true_iff, decide_eq_true_iff, Int32.le_iff_toInt_le, Int32.le_iff_toInt_le] at ec3
      exact ec3
    have ev : shV K (nI y) c = nI (kN K) := by unfold shV; rw [hx, hc, if_neg hl0, if_neg hn3]; rfl
    have eK : shK K (nI y) c = (kL K, kR K, kD K, kP K, kK K, kN K + 1, fun s => if s = kN K then c.toInt else kC K s) := by unfold shK; rw [hq]; rfl
    have eA : shA K A (nI y) c = (aD A, fun s => if s = kN K then y else aP A s, fun s => if s = kN K then 0 else aQ A s, aB A) := by unfold shA; rw [hq, ey]; rfl
    rw [ev, eK, eA] at C
    have i0 : ((3 : Int32) * h.1 73 14).toNatClampNeg = 3 * kN K := by rw [hN.1]; exact ix0c 3 (kN K) (by omega)
    have i1 : ((3 : Int32) * h.1 73 14 + 1).toNatClampNeg = 3 * kN K + 1 := by rw [hN.1]; exact ixc 3 1 (kN K) (by omega)
    have i2 : ((3 : Int32) * h.1 73 14 + 2).toNatClampNeg = 3 * kN K + 2 := by rw [hN.1]; exact ixc 3 2 (kN K) (by omega)
    refine V_go C tk_M_ship [] 86 ?_
    refine ⟨_, ⟨_, by decide, (ct_M_in32 (nI y) 0 9 h)⟩, fun r6 h6 p6 => ?_⟩
    obtain ⟨rfl, rfl⟩ := p6
    refine And.intro (fun c9 => ?_) (fun c9 => ?_)
    · refine ⟨_, ⟨_, by decide, (ct_M_in32 c (-1) 1 h)⟩, fun r21 h21 p21 => ?_⟩
      obtain ⟨rfl, rfl⟩ := p21
      refine And.intro (fun c24 => ?_) (fun c24 => ?_)
      · refine ⟨_, ⟨_, by decide, (ct_M_lacksR hr.1)⟩, fun r31 h31 p31 => ?_⟩
        obtain ⟨rfl, rfl⟩ := p31
        refine And.intro (fun c34 => ?_) (fun c34 => ?_)
        · refine And.intro (fun c45 => ?_) (fun c45 => ?_)
          · refine And.intro (by rw [hN.1]; exact ix0in 3 (kN K) 9 (by omega) (by decide)) ?_
            refine And.intro (by show vp_in ((3 : Int32) * h.1 73 14 + 1) 9; rw [hN.1]; exact ixin 3 1 (kN K) 9 (by omega) (by decide)) ?_
            refine And.intro (by show vp_in ((3 : Int32) * h.1 73 14 + 2) 9; rw [hN.1]; exact ixin 3 2 (kN K) 9 (by omega) (by decide)) ?_
            obtain ⟨⟨s1, s2, s3, s4, s5, s6⟩, ⟨d1, d2, d3⟩, a3, a4, a5⟩ := id hr
            have hh : ∀ z : Hp, z = (up2 (up2 (up2 (up2 h.1 77 (3 * kN K) (nI y)) 77 (3 * kN K + 1) c) 77 (3 * kN K + 2) 0) 73 14 (nI (kN K + 1)), h.2) → (RN (kL K, kR K, kD K, kP K, kK K, kN K + 1, fun s => if s = kN K then c.toInt else kC K s) (aD A, fun s => if s = kN K then y else aP A s, fun s => if s = kN K then 0 else aQ A s, aB A) q3 q4 F z ∧ Fr PN h z) := by
              intro z hz
              subst hz
              refine ⟨⟨⟨by simp [up2]; exact s1, by simp [up2]; exact s2, by simp [up2]; exact s3, fun k hk => by have := s4 k hk; simp [up2]; exact this, ⟨by simp [up2]; rfl, by show kN K + 1 ≤ 3; omega⟩, fun s hs => ?_⟩, ⟨fun k hk => by have := d1 k hk; simp [up2]; exact this, fun s hs => ?_, by simp [up2]; exact d3⟩, fun k hk => by have := a3 k hk; simp [up2]; exact this, by simp [up2]; exact a4, a5⟩, (((Fr.rf.up (by unfold PN; omega)).up (by unfold PN; omega)).up (by unfold PN; omega)).up (by unfold PN; omega)⟩
              · have hs' : s < kN K + 1 := hs
                show up2 (up2 (up2 (up2 h.1 77 (3 * kN K) (nI y)) 77 (3 * kN K + 1) c) 77 (3 * kN K + 2) 0) 73 14 (nI (kN K + 1)) 77 (3 * s + 1) = Int32.ofInt (if s = kN K then c.toInt else kC K s) ∧ (-1 ≤ (if s = kN K then c.toInt else kC K s) ∧ (if s = kN K then c.toInt else kC K s) ≤ 1)
                rw [up2_a _ _ _ _ (by decide), up2_b _ _ _ _ (by omega)]
                by_cases hsn : s = kN K
                · subst hsn
                  rw [up2_s, if_pos rfl, Int32.ofInt_toInt]
                  exact ⟨rfl, hc1⟩
                · rw [up2_b _ _ _ _ (by omega), up2_b _ _ _ _ (by omega), if_neg hsn]
                  exact s6 s (by omega)
              · have hs' : s < kN K + 1 := hs
                show up2 (up2 (up2 (up2 h.1 77 (3 * kN K) (nI y)) 77 (3 * kN K + 1) c) 77 (3 * kN K + 2) 0) 73 14 (nI (kN K + 1)) 77 (3 * s + 0) = nI (if s = kN K then y else aP A s) ∧ (if s = kN K then y else aP A s) < 10 ∧ up2 (up2 (up2 (up2 h.1 77 (3 * kN K) (nI y)) 77 (3 * kN K + 1) c) 77 (3 * kN K + 2) 0) 73 14 (nI (kN K + 1)) 77 (3 * s + 2) = nI (if s = kN K then 0 else aQ A s) ∧ (if s = kN K then 0 else aQ A s) ≤ 2
                by_cases hsn : s = kN K
                · subst hsn
                  simp [up2]
                  exact ⟨hy, rfl⟩
                · have h1 : 3 * s ≠ 3 * kN K := by omega
                  have h2 : 3 * s ≠ 3 * kN K + 1 := by omega
                  have h3 : 3 * s ≠ 3 * kN K + 2 := by omega
                  have h4 : 3 * s + 2 ≠ 3 * kN K := by omega
                  have h5 : 3 * s + 2 ≠ 3 * kN K + 1 := by omega
                  have h6 : 3 * s + 2 ≠ 3 * kN K + 2 := by omega
                  have h7 : (77 : Nat) ≠ 73 := by decide
                  simp only [up2, h1, h2, h3, h4, h5, h6, h7, hsn, Nat.add_zero, and_false, false_and, if_false]
                  exact d2 s (by omega)
            refine ⟨?_, hh _ ?_⟩
            · simp only [up2]
              simp [hN.1]
            · rw [i0]
              simp only [up2_a _ _ _ _ (show (73 : Nat) ≠ 77 by decide), i1, i2]
              rw [hN.1, nI_1]
          · exact absurd (en3.mp c45) hn3
        · rw [decide_eq_false hl0] at c34; exact absurd rfl c34
      · rw [ec3, hc] at c24; exact absurd c24 (by decide)
    · rw [ex10, hx] at c9; exact absurd c9 (by decide)
