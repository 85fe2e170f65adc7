/-! ===== the class: the text of the kinds, the page ===== -/
theorem ct_String_coder (h : Hp) : Ct 0 md_String_coder [.ref 88] h (ex (.int 0) h) := by
  refine Ct_of 11 rfl rfl rfl (fun X C => ?_)
  refine V_go C tk_String_coder [] 27 ?_
  refine And.intro (fun c3 => ?_) (fun c3 => ?_)
  · exact absurd c3 (by decide)
  · exact ⟨rfl, rfl, rfl⟩
theorem ct_String_isLatin1 (h : Hp) : Ct 0 md_String_isLatin1 [.ref 88] h (ex (.int 1) h) := by
  refine Ct_of 11 rfl rfl rfl (fun X C => ?_)
  refine V_go C tk_String_isLatin1 [] 29 ?_
  refine And.intro (fun c3 => ?_) (fun c3 => ?_)
  · exact absurd c3 (by decide)
  · refine And.intro (fun c10 => ?_) (fun c10 => ?_)
    · exact absurd rfl c10
    · exact ⟨by decide, rfl, rfl⟩
theorem ct_String_length (h : Hp) : Ct 1 md_String_length [.ref 88] h (ex (.int 5) h) := by
  refine Ct_of 11 rfl rfl rfl (fun X C => ?_)
  refine V_go C tk_String_length [] 27 ?_
  refine ⟨_, ⟨_, by decide, (ct_String_coder h)⟩, fun r6 h6 p6 => ?_⟩
  obtain ⟨rfl, rfl⟩ := p6
  exact ⟨by decide, rfl⟩
theorem ct_Latin1_canEncode {c : Int32} (hc : ltOk c = true) (h : Hp) : Ct 0 md_Latin1_canEncode [.int c] h (ex (.int 1) h) := by
  have hl := lt_in hc
  refine Ct_of 12 rfl rfl rfl (fun X C => ?_)
  refine V_go C tk_Latin1_canEncode [] 29 ?_
  refine And.intro (fun c1 => ?_) (fun c1 => ?_)
  · rw [Int32.lt_iff_toInt_lt, show (0 : Int32).toInt = 0 from rfl] at c1; omega
  · refine And.intro (fun c8 => ?_) (fun c8 => ?_)
    · rw [Int32.lt_iff_toInt_lt, show (255 : Int32).toInt = 255 from rfl] at c8; omega
    · exact ⟨by decide, rfl, rfl⟩
theorem i2b_id : ∀ n : Fin 127, (nI n.val).toInt8.toInt32 = nI n.val ∧ ((nI n.val).toUInt32 % 65536).toInt32 = nI n.val := by decide +kernel
theorem lt_nI {c : Int32} (hc : ltOk c = true) : ∃ n : Nat, n < 127 ∧ c = nI n := by
  have hl := lt_in hc
  refine ⟨c.toInt.toNat, by omega, ?_⟩
  rw [← ofInt_nat, Int.toNat_of_nonneg (by omega)]
  exact (Int32.ofInt_toInt c).symm
theorem ct_Latin1_indexOfChar {c : Int32} (hc : ltOk c = true) (h : Hp) : Ct 0 md_Latin1_indexOfChar [.ref 89, .int c, .int 0, .int 5] h (ex (.int (kdB c)) h) := by
  refine Ct_of 12 rfl rfl rfl (fun X C => ?_)
  obtain ⟨m, hm, hcm⟩ := lt_nI hc
  have eb : c.toInt8.toInt32 = c := by rw [hcm]; exact (i2b_id ⟨m, hm⟩).1
  have loop : ∀ (n i : Nat) (z b : Int32), z = c → i + n = 5 → b = nI i → (∀ k, k < i → ¬ sBy.getD k 0 = c) → V X 7 [some (.ref 89), some (.int c), some (.int 0), some (.int 5), some (.int z), some (.int b)] [] h := by
    intro n
    induction n with
    | zero =>
      intro i z b hz hi hb hn
      subst hz
      subst hb
      obtain rfl : i = 5 := by omega
      refine V_go C tk_Latin1_indexOfChar [7] 39 ?_
      refine And.intro (fun c10 => ?_) (fun c10 => ?_)
      · have h0 := hn 0 (by decide)
        have h1 := hn 1 (by decide)
        have h2 := hn 2 (by decide)
        have h3 := hn 3 (by decide)
        have h4 := hn 4 (by decide)
        refine ⟨?_, rfl⟩
        unfold kdB
        rw [if_neg (fun e => h0 e.symm), if_neg (fun e => h1 e.symm), if_neg (fun e => h2 e.symm), if_neg (fun e => h3 e.symm), if_neg (fun e => h4 e.symm)]
      · exact absurd (by decide) c10
    | succ n ih =>
      intro i z b hz hi hb hn
      subst hz
      subst hb
      have e3 := nIc (i := i) (by omega)
      refine V_go C tk_Latin1_indexOfChar [7] 39 ?_
      refine And.intro (fun c10 => ?_) (fun c10 => ?_)
      · exact absurd c10 (nI_ge (b := 5) (by omega) (by decide))
      · refine And.intro (inn (by omega) (by decide)) ?_
        refine And.intro (fun c19 => ?_) (fun c19 => ?_)
        · rw [e3] at c19
          refine ih (i + 1) _ _ rfl (by omega) (nI_1 i) (fun k hk => ?_)
          by_cases hki : k = i
          · subst hki
            exact c19
          · exact hn k (by omega)
        · rw [e3] at c19
          refine ⟨?_, rfl⟩
          rw [← c19]
          rcases (show i = 0 ∨ i = 1 ∨ i = 2 ∨ i = 3 ∨ i = 4 by omega) with rfl | rfl | rfl | rfl | rfl <;> rfl
  refine V_go C tk_Latin1_indexOfChar [7] 39 ?_
  exact loop 5 0 _ _ eb rfl rfl (fun k hk => absurd hk (by omega))
theorem ct_Latin1_indexOf {c : Int32} (hc : ltOk c = true) (h : Hp) : Ct 1 md_Latin1_indexOf [.ref 89, .int c, .int 0, .int 5] h (ex (.int (kdB c)) h) := by
  refine Ct_of 12 rfl rfl rfl (fun X C => ?_)
  refine V_go C tk_Latin1_indexOf [] 45 ?_
  refine ⟨_, ⟨_, by decide, (ct_Latin1_canEncode hc h)⟩, fun r1 h1 p1 => ?_⟩
  obtain ⟨rfl, rfl⟩ := p1
  refine And.intro (fun c4 => ?_) (fun c4 => ?_)
  · refine And.intro (fun c24 => ?_) (fun c24 => ?_)
    · refine ⟨_, ⟨_, by decide, (ct_Latin1_indexOfChar hc h)⟩, fun r33 h33 p33 => ?_⟩
      obtain ⟨rfl, rfl⟩ := p33
      exact ⟨rfl, rfl⟩
    · exact absurd (by decide) c24
  · exact absurd c4 (by decide)
theorem ct_String_indexOf_II {c : Int32} (hc : ltOk c = true) (h : Hp) : Ct 2 md_String_indexOf_II [.ref 88, .int c, .int 0] h (ex (.int (kdB c)) h) := by
  refine Ct_of 11 rfl rfl rfl (fun X C => ?_)
  refine V_go C tk_String_indexOf_II [] 39 ?_
  refine ⟨_, ⟨_, by decide, (ct_String_isLatin1 h)⟩, fun r1 h1 p1 => ?_⟩
  obtain ⟨rfl, rfl⟩ := p1
  refine And.intro (fun c4 => ?_) (fun c4 => ?_)
  · exact absurd c4 (by decide)
  · refine ⟨_, ⟨_, by decide, (ct_String_length h)⟩, fun r14 h14 p14 => ?_⟩
    obtain ⟨rfl, rfl⟩ := p14
    refine ⟨_, ⟨_, by decide, (ct_Latin1_indexOf hc h)⟩, fun r17 h17 p17 => ?_⟩
    obtain ⟨rfl, rfl⟩ := p17
    exact ⟨rfl, rfl⟩
theorem ct_String_indexOf_I {c x : Int32} (hx : x = c) (hc : ltOk c = true) (h : Hp) : Ct 3 md_String_indexOf_I [.ref 88, .int x] h (ex (.int (kdB c)) h) := by
  subst hx
  refine Ct_of 11 rfl rfl rfl (fun X C => ?_)
  refine V_go C tk_String_indexOf_I [] 25 ?_
  refine ⟨_, ⟨_, by decide, (ct_String_indexOf_II hc h)⟩, fun r3 h3 p3 => ?_⟩
  obtain ⟨rfl, rfl⟩ := p3
  exact ⟨rfl, rfl⟩
theorem chr {c : Int32} (hc : ltOk c = true) : (c.toUInt32 % 65536).toInt32 = c := by
  obtain ⟨m, hm, rfl⟩ := lt_nI hc
  exact (i2b_id ⟨m, hm⟩).2
theorem kd_lt (c : Int32) : kdB c < 0 ↔ kdB c = -1 := by
  unfold kdB
  split
  · decide
  · split
    · decide
    · split
      · decide
      · split
        · decide
        · split <;> decide
theorem ct_Page_fitsLights {j : Nat} {c : Int32} (hj : j ≤ 18) (hc : ltOk c = true) (h : Hp) : Ct 4 md_Page_fitsLights [.int (nI j), .int c] h (ex (.int (tI (okL j c))) h) := by
  refine Ct_of 3 rfl rfl rfl (fun X C => ?_)
  have k1 : nI j + 1 = nI (j + 1) := nI_1 j
  have k2 : nI (j + 1) / 3 = nI ((j + 1) / 3) := pk_div (d := 3) (by omega) (by decide) (by decide)
  have k3 : nI j - nI j / 3 * 3 = nI (j % 3) := pk_rem (d := 3) (by omega) (by decide) (by decide)
  have k4 : (nI (j % 3)).toInt = ((j % 3 : Nat) : Int) := nI_toI (by omega)
  have ec := chr hc
  refine V_go C tk_Page_fitsLights [] 69 ?_
  refine And.intro (by decide) ?_
  refine And.intro (by decide) ?_
  refine And.intro (fun c9 => ?_) (fun d9_0 => And.intro (fun c9 => ?_) (fun d9_1 => ?_))
  · refine ⟨_, ⟨_, by decide, (ct_String_indexOf_I ec hc h)⟩, fun r40 h40 p40 => ?_⟩
    obtain ⟨rfl, rfl⟩ := p40
    refine And.intro (fun c43 => ?_) (fun c43 => ?_)
    · rw [k3, k4] at c9
      have h3 : j % 3 = 0 := by omega
      rw [kd_lt] at c43
      exact ⟨by decide, by unfold okL; rw [if_pos h3, decide_eq_true c43]; rfl, rfl⟩
    · rw [k3, k4] at c9
      have h3 : j % 3 = 0 := by omega
      rw [kd_lt] at c43
      exact ⟨by decide, by unfold okL; rw [if_pos h3, decide_eq_false c43]; rfl, rfl⟩
  · refine And.intro (fun c55 => ?_) (fun c55 => ?_)
    · rw [k3, k4] at c9 d9_0
      have h3 : j % 3 = 1 := by omega
      exact ⟨by decide, by unfold okL dgt; rw [if_neg (by omega), if_pos h3, decide_eq_false (Int32.not_le.mpr c55)]; rfl, rfl⟩
    · refine And.intro (fun c61 => ?_) (fun c61 => ?_)
      · rw [k3, k4] at c9 d9_0
        have h3 : j % 3 = 1 := by omega
        exact ⟨by decide, by unfold okL dgt; rw [if_neg (by omega), if_pos h3, decide_eq_false (Int32.not_le.mpr c61), Bool.and_false]; rfl, rfl⟩
      · rw [k3, k4] at c9 d9_0
        have h3 : j % 3 = 1 := by omega
        exact ⟨by decide, by unfold okL dgt; rw [if_neg (by omega), if_pos h3, decide_eq_true (Int32.not_lt.mp c55), decide_eq_true (Int32.not_lt.mp c61)]; rfl, rfl⟩
  · refine And.intro (fun c73 => ?_) (fun c73 => ?_)
    · refine And.intro (fun c92 => ?_) (fun c92 => ?_)
      · rw [k3, k4] at d9_0 d9_1
        exact ⟨by decide, by unfold okL; rw [if_neg (by omega), if_neg (by omega), if_neg c73, decide_eq_false c92]; rfl, rfl⟩
      · refine And.intro (fun c97 => ?_) (fun c97 => ?_)
        · rw [k3, k4] at d9_0 d9_1
          rw [k1, k2] at c97
          have hq : ¬ 2 ≤ (j + 1) / 3 := fun h9 => absurd c97 (nI_nlt (b := 2) h9 (by omega))
          exact ⟨by decide, by unfold okL; rw [if_neg (by omega), if_neg (by omega), if_neg c73, decide_eq_false hq, Bool.and_false]; rfl, rfl⟩
        · rw [k3, k4] at d9_0 d9_1
          rw [k1, k2] at c97
          have hq : 2 ≤ (j + 1) / 3 := Nat.le_of_not_lt (fun h9 => c97 (nI_lt (b := 2) h9 (by decide)))
          exact ⟨by decide, by unfold okL; rw [if_neg (by omega), if_neg (by omega), if_neg c73, decide_eq_true c92, decide_eq_true hq]; rfl, rfl⟩
    · refine And.intro (fun c78 => ?_) (fun c78 => ?_)
      · rw [k3, k4] at d9_0 d9_1
        rw [k1, k2] at c78
        have hq : ¬ (j + 1) / 3 < 5 := fun h9 => absurd c78 (nI_ge (b := 5) h9 (by decide))
        exact ⟨by decide, by unfold okL; rw [if_neg (by omega), if_neg (by omega), if_pos c73, decide_eq_false hq]; rfl, rfl⟩
      · rw [k3, k4] at d9_0 d9_1
        rw [k1, k2] at c78
        have hq : (j + 1) / 3 < 5 := Nat.lt_of_not_le (fun h9 => c78 (nI_le (a := 5) h9 (by omega)))
        exact ⟨by decide, by unfold okL; rw [if_neg (by omega), if_neg (by omega), if_pos c73, decide_eq_true hq]; rfl, rfl⟩
theorem ct_Page_fitsEnd {d : Nat} {c x : Int32} (hx : x = nI d) (hd : d ≤ 18) (h : Hp) : Ct 0 md_Page_fitsEnd [.int x, .int c] h (ex (.int (tI (okE d c))) h) := by
  subst hx
  refine Ct_of 3 rfl rfl rfl (fun X C => ?_)
  have e1 : nI d = 1 ↔ d = 1 := nI_eq (b := 1) (by omega) (by decide)
  have e2 : nI d = 2 ↔ d = 2 := nI_eq (b := 2) (by omega) (by decide)
  refine V_go C tk_Page_fitsEnd [] 46 ?_
  refine And.intro (fun c2 => ?_) (fun c2 => ?_)
  · refine And.intro (fun c25 => ?_) (fun c25 => ?_)
    · rw [e1] at c2
      rw [e2] at c25
      exact ⟨by decide, by unfold okE; rw [if_neg c2, if_neg c25]; rfl, rfl⟩
    · refine And.intro (fun c31 => ?_) (fun c31 => ?_)
      · rw [e1] at c2
        rw [e2] at c25
        exact ⟨by decide, by unfold okE dgt1; rw [if_neg c2, if_pos c25, decide_eq_false (Int32.not_le.mpr c31)]; rfl, rfl⟩
      · refine And.intro (fun c37 => ?_) (fun c37 => ?_)
        · rw [e1] at c2
          rw [e2] at c25
          exact ⟨by decide, by unfold okE dgt1; rw [if_neg c2, if_pos c25, decide_eq_false (Int32.not_le.mpr c37), Bool.and_false]; rfl, rfl⟩
        · rw [e1] at c2
          rw [e2] at c25
          exact ⟨by decide, by unfold okE dgt1; rw [if_neg c2, if_pos c25, decide_eq_true (Int32.not_lt.mp c31), decide_eq_true (Int32.not_lt.mp c37)]; rfl, rfl⟩
  · refine And.intro (fun c8 => ?_) (fun c8 => ?_)
    · rw [e1] at c2
      exact ⟨by decide, by unfold okE dgt; rw [if_pos c2, decide_eq_false (Int32.not_le.mpr c8)]; rfl, rfl⟩
    · refine And.intro (fun c14 => ?_) (fun c14 => ?_)
      · rw [e1] at c2
        exact ⟨by decide, by unfold okE dgt; rw [if_pos c2, decide_eq_false (Int32.not_le.mpr c14), Bool.and_false]; rfl, rfl⟩
      · rw [e1] at c2
        exact ⟨by decide, by unfold okE dgt; rw [if_pos c2, decide_eq_true (Int32.not_lt.mp c8), decide_eq_true (Int32.not_lt.mp c14)]; rfl, rfl⟩
/-- the class's page -/
def CP (p : Nat) (pg : Nat → Int32) (h : Hp) : Prop := (h.1 1 1 = nI p ∧ p ≤ 18) ∧ ∀ j, j < p → h.1 41 j = pg j
def mkI (mr : Option Nat) : Int32 := match mr with
  | none => -1
  | some i => nI i
theorem ct_Page_firstFault {p : Nat} {pg : Nat → Int32} {h : Hp} (hp : CP p pg h) (hok : ∀ j, j < p → ltOk (pg j) = true) : Ct 5 md_Page_firstFault [.ref 1] h (ex (.int (nI (ffF pg p 0 none).1)) h) := by
  refine Ct_of 3 rfl rfl rfl (fun X C => ?_)
  obtain ⟨⟨hpm, hp18⟩, hg⟩ := id hp
  have loop : ∀ (n j : Nat) (m b : Int32) (r3 r4 : Option Value) (mr : Option Nat), j + n = p → b = nI j → m = mkI mr → (∀ i, mr = some i → i < j) → ffF pg n j mr = ffF pg p 0 none → V X 4 [some (.ref 1), some (.int m), some (.int b), r3, r4] [] h := by
    intro n
    induction n with
    | zero =>
      intro j m b r3 r4 mr hj hb hm hlt he
      subst hb
      have he' : (j, mr) = ffF pg p 0 none := he
      obtain rfl : j = p := by omega
      refine V_go C tk_Page_firstFault [4] 60 ?_
      refine And.intro (fun c9 => ?_) (fun c9 => ?_)
      · exact ⟨by rw [← he', hpm], rfl⟩
      · exact absurd (nle hpm) c9
    | succ n ih =>
      intro j m b r3 r4 mr hj hb hm hlt he
      subst hb
      have hjp : j < p := by omega
      have hcj := hok j hjp
      have he' : (if fitF mr j (pg j) then ffF pg n (j + 1) (nxM mr j (pg j)) else (j, mr)) = ffF pg p 0 none := he
      have fin : ∀ (t : Int32) (r4 : Option Value), t = tI (fitF mr j (pg j)) → V X 41 [some (.ref 1), some (.int m), some (.int (nI j)), some (.int (pg j)), r4] [.int t] h := by
        intro t r4 ht
        subst ht
        have nx : ∀ m' : Int32, fitF mr j (pg j) = true → m' = mkI (nxM mr j (pg j)) → ∀ r4, V X 4 [some (.ref 1), some (.int m'), some (.int (nI j + 1)), some (.int (pg j)), r4] [] h := by
          intro m' hf hm' r4
          rw [hf] at he'
          refine ih (j + 1) _ _ _ _ (nxM mr j (pg j)) (by omega) (nI_1 j) hm' (fun i hi => ?_) he'
          unfold nxM at hi
          split at hi
          · cases hi; omega
          · have := hlt i hi; omega
        refine V_go C tk_Page_firstFault [4] 60 ?_
        refine And.intro (fun c45 => ?_) (fun c45 => ?_)
        · refine And.intro (fun c53 => ?_) (fun c53 => ?_)
          · rw [tI_n] at c45
            exact nx _ c45 (by rw [hm]; unfold nxM; rw [if_neg c53]) _
          · rw [tI_n] at c45
            exact nx _ c45 (by unfold nxM; rw [if_pos c53]; rfl) _
        · rw [tI_0] at c45
          rw [c45] at he'
          exact ⟨by rw [← he']; rfl, rfl⟩
      match mr, hm, hlt, fin with
      | none, hm, hlt, fin =>
        have hm' : m = -1 := hm
        subst hm'
        refine V_go C tk_Page_firstFault [4, 41] 60 ?_
        refine And.intro (fun c9 => ?_) (fun c9 => ?_)
        · exact absurd c9 (nge (by omega) (by omega) hpm)
        · refine ⟨_, ⟨_, by decide, (ct_Row_at (r := 9) (a := 41) (n := 18) (by decide) rfl (by omega) h)⟩, fun r17 h17 p17 => ?_⟩
          rw [hg j hjp] at p17
          obtain ⟨rfl, rfl⟩ := p17
          refine And.intro (fun c23 => ?_) (fun c23 => ?_)
          · exact absurd rfl c23
          · refine ⟨_, ⟨_, by decide, (ct_Page_fitsLights (j := j) (by omega) hcj h)⟩, fun r28 h28 p28 => ?_⟩
            obtain ⟨rfl, rfl⟩ := p28
            exact fin _ _ rfl
      | some i, hm, hlt, fin =>
        have hm' : m = nI i := hm
        have hij := hlt i rfl
        subst hm'
        refine V_go C tk_Page_firstFault [4, 41] 60 ?_
        refine And.intro (fun c9 => ?_) (fun c9 => ?_)
        · exact absurd c9 (nge (by omega) (by omega) hpm)
        · refine ⟨_, ⟨_, by decide, (ct_Row_at (r := 9) (a := 41) (n := 18) (by decide) rfl (by omega) h)⟩, fun r17 h17 p17 => ?_⟩
          rw [hg j hjp] at p17
          obtain ⟨rfl, rfl⟩ := p17
          refine And.intro (fun c23 => ?_) (fun c23 => ?_)
          · refine ⟨_, ⟨_, by decide, (ct_Page_fitsEnd (d := j - i) (pk_sub (by omega)) (by omega) h)⟩, fun r38 h38 p38 => ?_⟩
            obtain ⟨rfl, rfl⟩ := p38
            exact fin _ _ rfl
          · exfalso; have h9 := congrArg Int32.toInt c23; rw [nI_toI (by omega)] at h9; rw [show (-1 : Int32).toInt = -1 from rfl] at h9; omega
  refine V_go C tk_Page_firstFault [4] 60 ?_
  exact loop p 0 _ _ _ _ none (by omega) rfl rfl (fun i h9 => by cases h9) rfl
theorem ct_Page_isWhole {p : Nat} {pg : Nat → Int32} {h : Hp} (hp : CP p pg h) (hok : ∀ j, j < p → ltOk (pg j) = true) : Ct 6 md_Page_isWhole [.ref 1] h (ex (.int (tI (stOk p pg))) h) := by
  refine Ct_of 3 rfl rfl rfl (fun X C => ?_)
  obtain ⟨⟨hpm, hp18⟩, hg⟩ := id hp
  have fl : (ffF pg p 0 none).1 ≤ p := by
    have : ∀ (n j : Nat) (mr : Option Nat), (ffF pg n j mr).1 ≤ j + n := by
      intro n
      induction n with
      | zero => intro j mr; exact Nat.le_refl _
      | succ n ih =>
        intro j mr
        show (if fitF mr j (pg j) then ffF pg n (j + 1) (nxM mr j (pg j)) else (j, mr)).1 ≤ _
        split
        · have := ih (j + 1) (nxM mr j (pg j)); omega
        · show j ≤ _; omega
    have := this p 0 none
    omega
  have key : stOk p pg = (decide (3 ≤ p) && decide (pg (p - 3) = 59) && decide ((ffF pg p 0 none).1 = p)) := by
    unfold stOk
    by_cases hf : (ffF pg p 0 none).1 = p
    · rw [decide_eq_true hf, Bool.true_and, Bool.and_true]
      rcases ff_none pg p 0 (by omega) with ⟨g1, g2⟩ | ⟨i, g1, g2, g3, g4, g5, g6, g7⟩
      · rw [g1]
        by_cases h3 : 3 ≤ p
        · rw [decide_eq_false (g2 (p - 3) (by omega) (by omega)).2, Bool.and_false]
        · rw [decide_eq_false h3]; rfl
      · rw [g1]
        show decide (p = i + 3) = _
        by_cases h3 : p = i + 3
        · rw [decide_eq_true h3, decide_eq_true (show 3 ≤ p by omega), show p - 3 = i by omega, decide_eq_true g4]
          rfl
        · rw [decide_eq_false h3]
          by_cases h4 : 3 ≤ p
          · have : ¬ pg (p - 3) = 59 := by
              rcases Nat.lt_or_ge (p - 3) i with h5 | h5
              · exact g6 (p - 3) (by omega) h5
              · exact okE_ne (g7 (p - 3) (by omega) (by omega))
            rw [decide_eq_false this, Bool.and_false]
          · rw [decide_eq_false h4]; rfl
    · rw [decide_eq_false hf, Bool.false_and, Bool.and_false]
  rw [key] at C
  by_cases h3 : 3 ≤ p
  · have es : h.1 1 1 - 3 = nI (p - 3) := by rw [hpm]; exact pk_sub (b := 3) h3
    refine V_go C tk_Page_isWhole [] 42 ?_
    refine And.intro (fun c5 => ?_) (fun c5 => ?_)
    · rw [hpm] at c5; exact absurd c5 (nI_nlt (b := 3) h3 (by omega))
    · refine ⟨_, ⟨_, by decide, (ct_Row_at (r := 9) (a := 41) (n := 18) (by decide) es (by omega) h)⟩, fun r18 h18 p18 => ?_⟩
      rw [hg (p - 3) (by omega)] at p18
      obtain ⟨rfl, rfl⟩ := p18
      refine And.intro (fun c23 => ?_) (fun c23 => ?_)
      · exact ⟨by decide, by rw [decide_eq_false c23, Bool.and_false]; rfl, rfl⟩
      · refine ⟨_, ⟨_, by decide, (ct_Page_firstFault hp hok)⟩, fun r27 h27 p27 => ?_⟩
        obtain ⟨rfl, rfl⟩ := p27
        refine And.intro (fun c34 => ?_) (fun c34 => ?_)
        · rw [hpm, nI_eq (by omega) (by omega)] at c34
          exact ⟨by decide, by rw [decide_eq_false c34, Bool.and_false]; rfl, rfl⟩
        · rw [hpm, nI_eq (by omega) (by omega)] at c34
          exact ⟨by decide, by rw [decide_eq_true c34, decide_eq_true c23, decide_eq_true h3]; rfl, rfl⟩
  · skip
    refine V_go C tk_Page_isWhole [] 42 ?_
    refine And.intro (fun c5 => ?_) (fun c5 => ?_)
    · exact ⟨by decide, by rw [decide_eq_false h3]; rfl, rfl⟩
    · rw [hpm] at c5; exact absurd (nI_lt (b := 3) (by omega) (by decide)) c5
