/-! ===== the class: its public methods, page to ships ===== -/
theorem iR_1 {k : Int32} {L : Nat} (h : k < 0) : inR k L = false := by
  rw [Int32.lt_iff_toInt_lt, show (0 : Int32).toInt = 0 from rfl] at h
  unfold inR
  rw [decide_eq_false (by omega), Bool.false_and]
theorem iR_2 {k M : Int32} {L : Nat} (hM : M.toInt = (L : Int)) (h : ¬ k < M) : inR k L = false := by
  rw [Int32.lt_iff_toInt_lt, hM] at h
  unfold inR
  rw [decide_eq_false h, Bool.and_false]
theorem iR_3 {k M : Int32} {L : Nat} (hM : M.toInt = (L : Int)) (h0 : ¬ k < 0) (h : k < M) : inR k L = true := by
  rw [Int32.lt_iff_toInt_lt, hM] at h
  rw [Int32.lt_iff_toInt_lt, show (0 : Int32).toInt = 0 from rfl] at h0
  unfold inR
  rw [decide_eq_true h, decide_eq_true (by omega)]
  rfl
theorem iR_4 {k M : Int32} {L : Nat} (hM : M.toInt = (L : Int) - 1) (h : ¬ k ≤ M) : inR k L = false := by
  rw [Int32.le_iff_toInt_le, hM] at h
  unfold inR
  rw [decide_eq_false (show ¬ k.toInt < (L : Int) by omega), Bool.and_false]
theorem iR_5 {k M : Int32} {L : Nat} (hM : M.toInt = (L : Int) - 1) (h0 : ¬ k < 0) (h : k ≤ M) : inR k L = true := by
  rw [Int32.le_iff_toInt_le, hM] at h
  rw [Int32.lt_iff_toInt_lt, show (0 : Int32).toInt = 0 from rfl] at h0
  unfold inR
  rw [decide_eq_true (by omega), decide_eq_true (by omega)]
  rfl
def PcP (a _b : Nat) : Prop := a = 1 ∨ a = 41
theorem ct_GD_letter {p : Nat} {pg : Nat → Int32} {h : Hp} (hp : CP p pg h) (c : Int32) : Ct 2 md_GD_letter [.ref 0, .int c] h (fun r h' => r = some (.int (ltV p c)) ∧ CP (ltP p c) (ltG p pg c) h' ∧ Fr PcP h h') := by
  refine Ct_of 6 rfl rfl rfl (fun X C => ?_)
  obtain ⟨⟨p1, p2⟩, p3⟩ := id hp
  have out : (ltOk c && !(decide (p = 18))) = false → CP (ltP p c) (ltG p pg c) h := by intro h9; unfold ltP ltG; rw [h9]; exact hp
  by_cases hp18 : p = 18
  · skip
    refine V_go C tk_GD_letter [] 43 ?_
    refine And.intro (fun c2 => ?_) (fun c2 => ?_)
    · have e : ltOk c = false := by unfold ltOk; rw [decide_eq_false (Int32.not_le.mpr c2), Bool.false_and]
      exact ⟨by unfold ltV; rw [e]; rfl, out (by rw [e]; rfl), Fr.rf⟩
    · refine And.intro (fun c8 => ?_) (fun c8 => ?_)
      · refine And.intro (fun c23 => ?_) (fun c23 => ?_)
        · rw [p1, hp18] at c23; exact absurd c23 (by decide)
        · have e : ltOk c = true := by unfold ltOk; rw [decide_eq_true (Int32.not_lt.mp c2), decide_eq_true c8]; rfl
          exact ⟨by unfold ltV; rw [e, if_pos rfl, if_pos hp18], out (by rw [e, decide_eq_true hp18]; rfl), Fr.rf⟩
      · have e : ltOk c = false := by unfold ltOk; rw [decide_eq_false c8, Bool.and_false]
        exact ⟨by unfold ltV; rw [e]; rfl, out (by rw [e]; rfl), Fr.rf⟩
  · skip
    refine V_go C tk_GD_letter [] 43 ?_
    refine And.intro (fun c2 => ?_) (fun c2 => ?_)
    · have e : ltOk c = false := by unfold ltOk; rw [decide_eq_false (Int32.not_le.mpr c2), Bool.false_and]
      exact ⟨by unfold ltV; rw [e]; rfl, out (by rw [e]; rfl), Fr.rf⟩
    · refine And.intro (fun c8 => ?_) (fun c8 => ?_)
      · refine And.intro (fun c23 => ?_) (fun c23 => ?_)
        · refine ⟨_, ⟨_, by decide, (ct_Page_write p1 (by omega) c)⟩, fun r34 h34 p34 => ?_⟩
          obtain ⟨rfl, rfl⟩ := p34
          have e : ltOk c = true := by unfold ltOk; rw [decide_eq_true (Int32.not_lt.mp c2), decide_eq_true c8]; rfl
          refine ⟨by unfold ltV; rw [e, if_pos rfl, if_neg hp18]; simp [up2], ?_, (Fr.rf.up (by unfold PcP; omega)).up (by unfold PcP; omega)⟩
          unfold ltP ltG
          rw [e, decide_eq_false hp18]
          refine ⟨⟨by simp [up2], by simp; omega⟩, fun j hj => ?_⟩
          have hj' : j < p + 1 := hj
          by_cases h9 : j = p
          · subst h9; simp [up2]
          · simp [up2, h9]; exact p3 j (by omega)
        · rw [p1] at c23; exact absurd (nI_lt (b := 18) (by omega) (by decide)) c23
      · have e : ltOk c = false := by unfold ltOk; rw [decide_eq_false c8, Bool.and_false]
        exact ⟨by unfold ltV; rw [e]; rfl, out (by rw [e]; rfl), Fr.rf⟩
theorem ct_GD_blank {p : Nat} {pg : Nat → Int32} {h : Hp} (hp : CP p pg h) : Ct 1 md_GD_blank [.ref 0] h (fun r h' => r = some (.int (nI p)) ∧ CP 0 pg h' ∧ Fr PcP h h') := by
  refine Ct_of 6 rfl rfl rfl (fun X C => ?_)
  refine V_go C tk_GD_blank [] 29 ?_
  refine ⟨_, ⟨_, by decide, (ct_Page_wipe h)⟩, fun r12 h12 p12 => ?_⟩
  obtain ⟨rfl, rfl⟩ := p12
  exact ⟨by rw [hp.1.1], ⟨⟨by simp [up2]; rfl, by omega⟩, fun j hj => absurd hj (Nat.not_lt_zero j)⟩, Fr.rf.up (by unfold PcP; omega)⟩
theorem ct_GD_fault {p : Nat} {pg : Nat → Int32} {h : Hp} (hp : CP p pg h) (hok : ∀ j, j < p → ltOk (pg j) = true) : Ct 6 md_GD_fault [.ref 0] h (ex (.int (nI (ffF pg p 0 none).1)) h) := by
  refine Ct_of 6 rfl rfl rfl (fun X C => ?_)
  refine V_go C tk_GD_fault [] 24 ?_
  refine ⟨_, ⟨_, by decide, (ct_Page_firstFault hp hok)⟩, fun r4 h4 p4 => ?_⟩
  obtain ⟨rfl, rfl⟩ := p4
  exact ⟨rfl, rfl⟩
theorem ct_GD_straitN {p : Nat} {pg : Nat → Int32} {h : Hp} (hp : CP p pg h) (hok : ∀ j, j < p → ltOk (pg j) = true) (hn : stOk p pg = false) : Ct 7 md_GD_strait [.ref 0] h (ex (.int (-103)) h) := by
  refine Ct_of 6 rfl rfl rfl (fun X C => ?_)
  refine V_go C tk_GD_strait [13] 53 ?_
  refine ⟨_, ⟨_, by decide, (ct_Page_isWhole hp hok)⟩, fun r4 h4 p4 => ?_⟩
  obtain ⟨rfl, rfl⟩ := p4
  refine And.intro (fun c7 => ?_) (fun c7 => ?_)
  · rw [hn] at c7; exact absurd rfl c7
  · exact ⟨rfl, rfl⟩
def PcS (a b : Nat) : Prop := PCs a b ∨ PN3 a b ∨ PH6 a b ∨ PcP a b ∨ a = 0
theorem CSt.fr {P : Nat → Nat → Prop} {K : KF} {h h' : Hp} (a : CSt K h) (f : Fr P h h') (hp : ∀ i j, P i j → i ≠ 2 ∧ i ≠ 42 ∧ i ≠ 43 ∧ i ≠ 44) : CSt K h' := by
  obtain ⟨⟨⟨a1, a2⟩, ⟨a3, a4⟩, ⟨a5, a6⟩, a7⟩, a8⟩ := a
  have g2 : ∀ j, h'.1 2 j = h.1 2 j := fun j => f.1 2 j (fun h9 => (hp _ _ h9).1 rfl)
  have g42 : ∀ j, h'.1 42 j = h.1 42 j := fun j => f.1 42 j (fun h9 => (hp _ _ h9).2.1 rfl)
  have g43 : ∀ j, h'.1 43 j = h.1 43 j := fun j => f.1 43 j (fun h9 => (hp _ _ h9).2.2.1 rfl)
  have g44 : ∀ j, h'.1 44 j = h.1 44 j := fun j => f.1 44 j (fun h9 => (hp _ _ h9).2.2.2 rfl)
  refine ⟨⟨⟨?_, a2⟩, ⟨?_, a4⟩, ⟨?_, a6⟩, fun k hk => ?_⟩, fun x hx => ?_⟩
  · rw [g2]; exact a1
  · rw [g2]; exact a3
  · rw [g2]; exact a5
  · rw [g42, g43]; exact a7 k hk
  · rw [g44]; exact a8 x hx
theorem CN3.fr {P : Nat → Nat → Prop} {K : KF} {A : AS} {q3 q4 : Nat → Int32} {F : Nat} {h h' : Hp} (a : CN3 K A q3 q4 F h) (f : Fr P h h') (hp : ∀ i j, P i j → i ≠ 3 ∧ ¬ (45 ≤ i ∧ i ≤ 50)) : CN3 K A q3 q4 F h' := by
  have g : ∀ i j, (i = 3 ∨ (45 ≤ i ∧ i ≤ 50)) → h'.1 i j = h.1 i j := fun i j hi => f.1 i j (fun h9 => by have := hp _ _ h9; omega)
  obtain ⟨⟨n1, n2⟩, n3, n4, ⟨n5, n6⟩, n7⟩ := a
  refine ⟨⟨by rw [g 3 7 (by omega)]; exact n1, n2⟩, fun s hs => ?_, fun k hk => ?_, ⟨by rw [g 3 8 (by omega)]; exact n5, n6⟩, by rw [g 3 9 (by omega)]; exact n7⟩
  · rw [g 45 s (by omega), g 46 s (by omega), g 47 s (by omega)]; exact n3 s hs
  · rw [g 48 k (by omega), g 49 k (by omega), g 50 k (by omega)]; exact n4 k hk
theorem CH6.fr {P : Nat → Nat → Prop} {H : HD} {h h' : Hp} (a : CH6 H h) (f : Fr P h h') (hp : ∀ i j, P i j → i ≠ 6 ∧ ¬ (63 ≤ i ∧ i ≤ 67)) : CH6 H h' := by
  have g : ∀ i j, (i = 6 ∨ (63 ≤ i ∧ i ≤ 67)) → h'.1 i j = h.1 i j := fun i j hi => f.1 i j (fun h9 => by have := hp _ _ h9; omega)
  obtain ⟨⟨n1, n2⟩, n3⟩ := a
  refine ⟨⟨by rw [g 6 6 (by omega)]; exact n1, n2⟩, fun i hi => ?_⟩
  rw [g 63 i (by omega), g 64 i (by omega), g 65 i (by omega), g 66 i (by omega), g 67 i (by omega)]; exact n3 i hi
theorem CP.fr {P : Nat → Nat → Prop} {p : Nat} {pg : Nat → Int32} {h h' : Hp} (a : CP p pg h) (f : Fr P h h') (hp : ∀ i j, P i j → i ≠ 1 ∧ i ≠ 41) : CP p pg h' := by
  have g : ∀ i j, (i = 1 ∨ i = 41) → h'.1 i j = h.1 i j := fun i j hi => f.1 i j (fun h9 => by have := hp _ _ h9; omega)
  exact ⟨⟨by rw [g 1 1 (by omega)]; exact a.1.1, a.1.2⟩, fun j hj => by rw [g 41 j (by omega)]; exact a.2 j hj⟩
theorem ct_GD_strait {H : HD} {p : Nat} {pg : Nat → Int32} {h : Hp} (hp : CP p pg h) (hok : ∀ j, j < p → ltOk (pg j) = true) (hn : stOk p pg = true) : Ct 7 md_GD_strait [.ref 0] h (fun r h' => r = some (.int (nI ((p - 2) / 3))) ∧ CSt (stK p pg) h' ∧ CN3 (stK p pg) stA (fun _ => 0) (fun _ => 0) 0 h' ∧ CH6 (hd0 H) h' ∧ CP 0 pg h' ∧ h'.1 0 8 = 0 ∧ h'.1 0 9 = h.1 0 9 + 1 ∧ Fr PcS h h') := by
  refine Ct_of 6 rfl rfl rfl (fun X C => ?_)
  obtain ⟨i, e0, e1, e2, e3, e4, e5, e6, e7, e8, e9, e10⟩ := st_facts hn hp.1.2
  refine V_go C tk_GD_strait [] 53 ?_
  refine ⟨_, ⟨_, by decide, (ct_Page_isWhole hp hok)⟩, fun r4 h4 p4 => ?_⟩
  obtain ⟨rfl, rfl⟩ := p4
  refine And.intro (fun c7 => ?_) (fun c7 => ?_)
  · refine ⟨_, ⟨_, by decide, (ct_Strait_read hp hok hn)⟩, fun r21 h21 p21 => ?_⟩
    obtain ⟨rfl, s1, f1⟩ := p21
    refine ⟨_, ⟨_, by decide, (ct_Page_wipe _)⟩, fun r28 h28 p28 => ?_⟩
    obtain ⟨rfl, rfl⟩ := p28
    refine ⟨_, ⟨_, by decide, (ct_Night_begin _)⟩, fun r35 h35 p35 => ?_⟩
    obtain ⟨rfl, s2, f2⟩ := p35
    refine ⟨_, ⟨_, by decide, (ct_Heard_clear (H := H) _)⟩, fun r42 h42 p42 => ?_⟩
    obtain ⟨rfl, s3, f3⟩ := p42
    refine And.intro (by decide) ?_
    have fw : Fr PcP h21 (up2 h21.1 1 1 0, h21.2) := Fr.rf.up (by unfold PcP; omega)
    have c1 : CSt (stK p pg) h42 := ((s1.fr fw (fun i j h9 => by unfold PcP at h9; omega)).fr f2 (fun i j h9 => by unfold PN3 at h9; omega)).fr f3 (fun i j h9 => by unfold PH6 at h9; omega)
    have c2 : CN3 (stK p pg) stA (fun _ => 0) (fun _ => 0) 0 h42 := (s2 (stK p pg) rfl e10).fr f3 (fun i j h9 => by unfold PH6 at h9; omega)
    have g0 : h42.1 0 9 = h.1 0 9 := by rw [f3.1 0 9 (by unfold PH6; omega), f2.1 0 9 (by unfold PN3; omega), fw.1 0 9 (by unfold PcP; omega), f1.1 0 9 (by unfold PCs; omega)]
    have g1 : h42.1 1 1 = 0 := by rw [f3.1 1 1 (by unfold PH6; omega), f2.1 1 1 (by unfold PN3; omega)]; simp [up2]
    have f0 : Fr PcS h h42 := (((f1.mono (Q := PcS) (fun _ _ h9 => Or.inl h9)).tr (fw.mono (fun _ _ h9 => Or.inr (Or.inr (Or.inr (Or.inl h9)))))).tr (f2.mono (fun _ _ h9 => Or.inr (Or.inl h9)))).tr (f3.mono (fun _ _ h9 => Or.inr (Or.inr (Or.inl h9))))
    have fin : Fr (fun a _ => a = 0) h42 (up2 (up2 h42.1 0 8 0) 0 9 (up2 h42.1 0 8 0 0 9 + 1), h42.2) := (Fr.rf.up (i := 0) (j := 8) (x := 0) (by omega)).up (by omega)
    refine ⟨by simp [up2]; exact c1.1.1.1, c1.fr fin (fun i j h9 => by omega), c2.fr fin (fun i j h9 => by omega), s3.fr fin (fun i j h9 => by omega), ⟨⟨by simp [up2]; exact g1, by omega⟩, fun j hj => absurd hj (Nat.not_lt_zero j)⟩, by simp [up2], by simp [up2]; rw [g0], f0.tr (fin.mono (fun a b h9 => by unfold PcS; omega))⟩
  · rw [hn] at c7; exact absurd c7 (by decide)
theorem ct_GD_waitOf {K : KF} {A : AS} {q3 q4 : Nat → Int32} {F : Nat} {h : Hp} (hs : CSt K h) (hn : CN3 K A q3 q4 F h) {k : Nat} (hk : k < kL K) : Ct 4 md_GD_waitOf [.ref 0, .int (nI k)] h (fun r h' => r = some (.int (whenF K k 31 0 A)) ∧ Fr PN5 h h') := by
  refine Ct_of 6 rfl rfl rfl (fun X C => ?_)
  have loop : ∀ (n i : Nat) (B : AS) (b : Int32) (hh : Hp), i + n = 31 → b = nI i → CSt K hh → CN5 K B q3 q4 F hh → Fr PN5 h hh → whenF K k n i B = whenF K k 31 0 A → V X 13 [some (.ref 0), some (.int (nI k)), some (.int b)] [] hh := by
    intro n
    induction n with
    | zero =>
      intro i B b hh hi hb h1 h2 hf he
      subst hb
      obtain rfl : i = 31 := by omega
      refine V_go C tk_GD_waitOf [13] 45 ?_
      refine And.intro (fun c16 => ?_) (fun c16 => ?_)
      · exact ⟨by rw [← he]; rfl, hf⟩
      · exact absurd (by decide) c16
    | succ n ih =>
      intro i B b hh hi hb h1 h2 hf he
      subst hb
      have he' : (if mayGo K B k then nI i else whenF K k n (i + 1) (stepA K B)) = whenF K k 31 0 A := he
      refine V_go C tk_GD_waitOf [13] 45 ?_
      refine And.intro (fun c16 => ?_) (fun c16 => ?_)
      · exact absurd c16 (nI_nlt (a := 30) (b := i) (by omega) (by omega))
      · refine ⟨_, ⟨_, by decide, (ct_Night_mayGoDark_5 h1 h2 hk)⟩, fun r24 h24 p24 => ?_⟩
        obtain ⟨rfl, rfl⟩ := p24
        refine And.intro (fun c27 => ?_) (fun c27 => ?_)
        · refine ⟨_, ⟨_, by decide, (ct_Night_passBreath_5 h1 h2)⟩, fun r36 h36 p36 => ?_⟩
          obtain ⟨rfl, h3, f3⟩ := p36
          rw [tI_0] at c27
          rw [c27] at he'
          exact ih (i + 1) (stepA K B) _ _ (by omega) (nI_1 i) (h1.n5 f3) h3 (hf.tr f3) he'
        · rw [tI_n] at c27
          rw [c27] at he'
          exact ⟨by rw [← he']; rfl, hf⟩
  refine V_go C tk_GD_waitOf [13] 45 ?_
  refine ⟨_, ⟨_, by decide, (ct_Night_copyFrom_53 hs.1.1.2 hn)⟩, fun r8 h8 p8 => ?_⟩
  obtain ⟨rfl, h3, f3⟩ := p8
  exact loop 31 0 A _ _ (by omega) rfl (hs.n5 f3) h3 f3 rfl
theorem ct_GD_about {K : KF} {A : AS} {q3 q4 : Nat → Int32} {F : Nat} {h : Hp} (hs : CSt K h) (hn : CN3 K A q3 q4 F h) (k what : Int32) : Ct 5 md_GD_about [.ref 0, .int k, .int what] h (fun r h' => r = some (.int (if inR k (kL K) then tellV K A q3 q4 k.toNatClampNeg what else -101)) ∧ Fr PN5 h h') := by
  refine Ct_of 6 rfl rfl rfl (fun X C => ?_)
  cases hin : inR k (kL K) with
  | false =>
    refine V_go C tk_GD_about [14] 74 ?_
    refine ⟨_, ⟨_, by decide, (ct_Strait_hasLight hs.1.1.1 hs.1.1.2 k)⟩, fun r5 h5 p5 => ?_⟩
    obtain ⟨rfl, rfl⟩ := p5
    refine And.intro (fun c8 => ?_) (fun c8 => ?_)
    · rw [hin] at c8; exact absurd rfl c8
    · exact ⟨by rw [hin]; rfl, Fr.rf⟩
  | true =>
    obtain ⟨j, hj, rfl⟩ := inR_t hin
    have hL5 := hs.1.1.2
    have e := nIc (i := j) (by omega)
    obtain ⟨⟨k1, -⟩, k3, -⟩ := hs.1.2.2.2 j hj
    obtain ⟨⟨d1, -⟩, d3, d4⟩ := hn.2.2.1 j hj
    have fin : ∀ (v : Int32) (h' : Hp), v = tellV K A q3 q4 j what → Fr PN5 h h' → (fun r h' => r = some (Value.int (if inR (nI j) (kL K) = true then tellV K A q3 q4 (nI j).toNatClampNeg what else -101)) ∧ Fr PN5 h h') (some (Value.int v)) h' := by
      intro v h' hv hf
      exact ⟨by rw [hin, e, hv]; rfl, hf⟩
    refine V_go C tk_GD_about [] 74 ?_
    refine ⟨_, ⟨_, by decide, (ct_Strait_hasLight hs.1.1.1 hs.1.1.2 _)⟩, fun r5 h5 p5 => ?_⟩
    obtain ⟨rfl, rfl⟩ := p5
    refine And.intro (fun c8 => ?_) (fun c8 => ?_)
    · refine And.intro (fun c15 => ?_) (And.intro (fun c15 => ?_) (And.intro (fun c15 => ?_) (And.intro (fun c15 => ?_) (And.intro (fun c15 => ?_) (And.intro (fun c15 => ?_) (And.intro (fun c15 => ?_) (And.intro (fun c15 => ?_) trivial)))))))
      · refine fin _ _ ?_ Fr.rf
        unfold tellV
        rw [if_neg (sw_out c15 (by decide) (by decide)), if_neg (sw_out c15 (by decide) (by decide)), if_neg (sw_out c15 (by decide) (by decide)), if_neg (sw_out c15 (by decide) (by decide)), if_neg (sw_out c15 (by decide) (by decide)), if_neg (sw_out c15 (by decide) (by decide)), if_neg (sw_out c15 (by decide) (by decide))]
      · refine ⟨_, ⟨_, by decide, (ct_Row_at (r := 10) (a := 42) (n := 5) (by decide) rfl (by omega) h)⟩, fun r64 h64 p64 => ?_⟩
        obtain ⟨rfl, rfl⟩ := p64
        exact fin _ _ (by rw [c15, k1]; rfl) Fr.rf
      · refine ⟨_, ⟨_, by decide, (ct_Row_at (r := 11) (a := 43) (n := 5) (by decide) rfl (by omega) h)⟩, fun r76 h76 p76 => ?_⟩
        obtain ⟨rfl, rfl⟩ := p76
        exact fin _ _ (by rw [c15, k3]; rfl) Fr.rf
      · refine ⟨_, ⟨_, by decide, (ct_Row_at (r := 16) (a := 48) (n := 5) (by decide) rfl (by omega) h)⟩, fun r88 h88 p88 => ?_⟩
        obtain ⟨rfl, rfl⟩ := p88
        exact fin _ _ (by rw [c15, d1]; rfl) Fr.rf
      · refine ⟨_, ⟨_, by decide, (ct_Night_mayGoDark_3 hs hn hj)⟩, fun r97 h97 p97 => ?_⟩
        obtain ⟨rfl, rfl⟩ := p97
        refine And.intro (fun c100 => ?_) (fun c100 => ?_)
        · rw [tI_0] at c100
          exact fin _ _ (by rw [c15]; show _ = tI (mayGo K A j); rw [c100]; rfl) Fr.rf
        · rw [tI_n] at c100
          exact fin _ _ (by rw [c15]; show _ = tI (mayGo K A j); rw [c100]; rfl) Fr.rf
      · refine ⟨_, ⟨_, by decide, (ct_GD_waitOf hs hn hj)⟩, fun r111 h111 p111 => ?_⟩
        obtain ⟨rfl, f3⟩ := p111
        exact fin _ _ (by rw [c15]; rfl) f3
      · refine ⟨_, ⟨_, by decide, (ct_Row_at (r := 17) (a := 49) (n := 5) (by decide) rfl (by omega) h)⟩, fun r123 h123 p123 => ?_⟩
        obtain ⟨rfl, rfl⟩ := p123
        exact fin _ _ (by rw [c15, d3]; rfl) Fr.rf
      · refine ⟨_, ⟨_, by decide, (ct_Row_at (r := 18) (a := 50) (n := 5) (by decide) rfl (by omega) h)⟩, fun r135 h135 p135 => ?_⟩
        obtain ⟨rfl, rfl⟩ := p135
        exact fin _ _ (by rw [c15, d4]; rfl) Fr.rf
    · rw [hin] at c8; exact absurd c8 (by decide)
theorem ct_GD_as {K : KF} {h : Hp} (hs : CSt K h) (k kind : Int32) : Ct 1 md_GD_as [.ref 0, .int k, .int kind] h (ex (.int (asV K k kind)) h) := by
  refine Ct_of 6 rfl rfl rfl (fun X C => ?_)
  cases hin : inR k (kL K) with
  | false =>
    refine V_go C tk_GD_as [14] 46 ?_
    refine ⟨_, ⟨_, by decide, (ct_Strait_hasLight hs.1.1.1 hs.1.1.2 k)⟩, fun r5 h5 p5 => ?_⟩
    obtain ⟨rfl, rfl⟩ := p5
    refine And.intro (fun c8 => ?_) (fun c8 => ?_)
    · rw [hin] at c8; exact absurd rfl c8
    · exact ⟨by unfold asV; rw [hin]; rfl, rfl⟩
  | true =>
    obtain ⟨j, hj, rfl⟩ := inR_t hin
    have hL5 := hs.1.1.2
    have e := nIc (i := j) (by omega)
    obtain ⟨⟨k1, -⟩, -⟩ := hs.1.2.2.2 j hj
    have hv : asV K (nI j) kind = if inR kind 5 then (if asB (nI (kK K j)) kind then nI j else -1) else -102 := by unfold asV; rw [hin, e]; rfl
    refine V_go C tk_GD_as [] 46 ?_
    refine ⟨_, ⟨_, by decide, (ct_Strait_hasLight hs.1.1.1 hs.1.1.2 _)⟩, fun r5 h5 p5 => ?_⟩
    obtain ⟨rfl, rfl⟩ := p5
    refine And.intro (fun c8 => ?_) (fun c8 => ?_)
    · refine And.intro (fun c15 => ?_) (fun c15 => ?_)
      · exact ⟨by rw [hv, iR_1 c15]; rfl, rfl⟩
      · refine And.intro (fun c20 => ?_) (fun c20 => ?_)
        · refine ⟨_, ⟨_, by decide, (ct_Row_at (r := 10) (a := 42) (n := 5) (by decide) rfl (by omega) h)⟩, fun r34 h34 p34 => ?_⟩
          rw [k1] at p34
          obtain ⟨rfl, rfl⟩ := p34
          refine ⟨_, ⟨_, by decide, (ct_GD_isOfKind _ _ h)⟩, fun r38 h38 p38 => ?_⟩
          obtain ⟨rfl, rfl⟩ := p38
          refine And.intro (fun c41 => ?_) (fun c41 => ?_)
          · rw [tI_0] at c41
            exact ⟨by rw [hv, iR_3 (L := 5) rfl c15 c20, c41]; rfl, rfl⟩
          · rw [tI_n] at c41
            exact ⟨by rw [hv, iR_3 (L := 5) rfl c15 c20, c41]; rfl, rfl⟩
        · exact ⟨by rw [hv, iR_2 (L := 5) rfl c20]; rfl, rfl⟩
    · rw [hin] at c8; exact absurd c8 (by decide)
theorem cL0 {K : KF} {h : Hp} (hs : CSt K h) : h.1 2 3 = 0 ↔ kL K = 0 := by
  rw [hs.1.1.1]
  exact nI_eq0 (by have := hs.1.1.2; omega)
theorem ct_GD_fact {K : KF} {A : AS} {q3 q4 : Nat → Int32} {F : Nat} {h : Hp} (hs : CSt K h) (hn : CN3 K A q3 q4 F h) (f : Int32) (is : Bool) : Ct 1 md_GD_fact [.ref 0, .int f, .int (tI is)] h (fun r h' => r = some (.int (factV K F f)) ∧ CN3 K A q3 q4 (factF K F f is) h' ∧ Fr PN3 h h') := by
  refine Ct_of 6 rfl rfl rfl (fun X C => ?_)
  obtain ⟨⟨n1, n2⟩, n3, n4, ⟨n5, n6⟩, n7⟩ := id hn
  have out : (inR f 4 && !(decide (kL K = 0))) = false → CN3 K A q3 q4 (factF K F f is) h := by intro h9; unfold factF; rw [if_neg (by rw [h9]; decide)]; exact hn
  cases hin : inR f 4 with
  | false =>
    refine V_go C tk_GD_fact [10] 63 ?_
    refine ⟨_, ⟨_, by decide, (ct_GD_isFact f h)⟩, fun r1 h1 p1 => ?_⟩
    obtain ⟨rfl, rfl⟩ := p1
    refine And.intro (fun c4 => ?_) (fun c4 => ?_)
    · rw [hin] at c4; exact absurd rfl c4
    · exact ⟨by unfold factV; rw [hin]; rfl, out (by rw [hin]; rfl), Fr.rf⟩
  | true =>
    obtain ⟨j, hj, rfl⟩ := inR_t hin
    have e := nIc (i := j) (by omega)
    obtain ⟨b1, b2, b3, b4, b5⟩ := bit_set' n6 hj
    have fin : ∀ (v : Int32) (F' : Nat), v = nI F' → F' < 16 → CN3 K A q3 q4 F' (up2 h.1 3 8 v, h.2) := by
      intro v F' hv hF
      refine ⟨⟨by simp [up2]; exact n1, n2⟩, fun s hs => ?_, fun k hk => ?_, ⟨by simp [up2]; exact hv, hF⟩, by simp [up2]; exact n7⟩
      · have := n3 s hs
        simp [up2]; exact this
      · have := n4 k hk
        simp [up2]; exact this
    refine V_go C tk_GD_fact [] 63 ?_
    refine ⟨_, ⟨_, by decide, (ct_GD_isFact _ h)⟩, fun r1 h1 p1 => ?_⟩
    obtain ⟨rfl, rfl⟩ := p1
    refine And.intro (fun c4 => ?_) (fun c4 => ?_)
    · refine And.intro (fun c17 => ?_) (fun c17 => ?_)
      · refine And.intro (fun c45 => ?_) (fun c45 => ?_)
        · rw [cL0 hs] at c17
          rw [tI_0] at c45
          exact ⟨by unfold factV; rw [hin, if_pos rfl, if_neg c17, e, n5, b5], by unfold factF; rw [hin, decide_eq_false c17, if_pos (by decide), e, c45]; exact fin _ _ (by rw [n5, b2]; rfl) b4, Fr.rf.up (by unfold PN3; omega)⟩
        · rw [cL0 hs] at c17
          rw [tI_n] at c45
          exact ⟨by unfold factV; rw [hin, if_pos rfl, if_neg c17, e, n5, b5], by unfold factF; rw [hin, decide_eq_false c17, if_pos (by decide), e, c45]; exact fin _ _ (by rw [n5, b1]; rfl) b3, Fr.rf.up (by unfold PN3; omega)⟩
      · rw [cL0 hs] at c17
        exact ⟨by unfold factV; rw [hin, if_pos rfl, if_pos c17], out (by rw [decide_eq_true c17, Bool.not_true, Bool.and_false]), Fr.rf⟩
    · rw [hin] at c4; exact absurd c4 (by decide)
theorem ct_GD_ship {K : KF} {A : AS} {q3 q4 : Nat → Int32} {F : Nat} {h : Hp} (hs : CSt K h) (hn : CN3 K A q3 q4 F h) (x c : Int32) : Ct 2 md_GD_ship [.ref 0, .int x, .int c] h (fun r h' => r = some (.int (shV K x c)) ∧ CN3 (shK K x c) (shA K A x c) q3 q4 F h' ∧ Fr PN3 h h') := by
  refine Ct_of 6 rfl rfl rfl (fun X C => ?_)
  obtain ⟨n1, n2⟩ := hn.1
  have out : shQ K x c = false → CN3 (shK K x c) (shA K A x c) q3 q4 F h := by intro hq; unfold shK shA; rw [hq]; exact hn
  have ec3 := crs_in c
  cases hin : inR x 10 with
  | false =>
    refine V_go C tk_GD_ship [10] 52 ?_
    refine ⟨_, ⟨_, by decide, (ct_GD_isPlace x h)⟩, fun r1 h1 p1 => ?_⟩
    obtain ⟨rfl, rfl⟩ := p1
    refine And.intro (fun c4 => ?_) (fun c4 => ?_)
    · rw [hin] at c4; exact absurd rfl c4
    · exact ⟨by unfold shV; rw [hin]; rfl, out (by unfold shQ; rw [hin]; rfl), Fr.rf⟩
  | true =>
    obtain ⟨j, hj, rfl⟩ := inR_t hin
    have e := nIc (i := j) (by omega)
    by_cases hg : (-1 ≤ c ∧ c ≤ 1) ∧ kL K ≠ 0 ∧ kN K < 3
    · obtain ⟨⟨g1, g2⟩, g3, g4⟩ := hg
      have hc3 : inR (c + 1) 3 = true := by rw [← ec3, decide_eq_true g1, decide_eq_true g2]; rfl
      have hq : shQ K (nI j) c = true := by unfold shQ; rw [hin, hc3, decide_eq_false g3, decide_eq_false (show ¬ kN K = 3 by omega)]; rfl
      have t1 : -1 ≤ c.toInt := by rw [Int32.le_iff_toInt_le, show (-1 : Int32).toInt = -1 from rfl] at g1; exact g1
      have t2 : c.toInt ≤ 1 := by rw [Int32.le_iff_toInt_le, show (1 : Int32).toInt = 1 from rfl] at g2; exact g2
      have hl := ct_Night_launch hn g4 hj (c := c.toInt) ⟨t1, t2⟩ (K' := shK K (nI j) c) (A' := shA K A (nI j) c) (by
        unfold shK shA
        rw [hq, e]
        refine ⟨rfl, rfl, fun s hs => ?_, ⟨?_, ?_, ?_⟩, rfl, rfl⟩
        · have hne : s ≠ kN K := by omega
          refine ⟨?_, ?_, ?_⟩
          · show (if s = kN K then c.toInt else kC K s) = _; rw [if_neg hne]
          · show (if s = kN K then j else aP A s) = _; rw [if_neg hne]
          · show (if s = kN K then 0 else aQ A s) = _; rw [if_neg hne]
        · show (if kN K = kN K then c.toInt else kC K (kN K)) = _; rw [if_pos rfl]
        · show (if kN K = kN K then j else aP A (kN K)) = _; rw [if_pos rfl]
        · show (if kN K = kN K then 0 else aQ A (kN K)) = _; rw [if_pos rfl])
      rw [Int32.ofInt_toInt] at hl
      refine V_go C tk_GD_ship [] 52 ?_
      refine ⟨_, ⟨_, by decide, (ct_GD_isPlace _ h)⟩, fun r1 h1 p1 => ?_⟩
      obtain ⟨rfl, rfl⟩ := p1
      refine And.intro (fun c4 => ?_) (fun c4 => ?_)
      · refine And.intro (fun c12 => ?_) (fun c12 => ?_)
        · exact absurd g1 (Int32.not_le.mpr c12)
        · refine And.intro (fun c17 => ?_) (fun c17 => ?_)
          · refine And.intro (fun c30 => ?_) (fun c30 => ?_)
            · refine And.intro (fun c44 => ?_) (fun c44 => ?_)
              · refine ⟨_, ⟨_, by decide, hl⟩, fun r56 h56 p56 => ?_⟩
                obtain ⟨rfl, l1, l2⟩ := p56
                exact ⟨by unfold shV; rw [hin, hc3, if_pos rfl, if_pos rfl, if_neg g3, if_neg (by omega)], l1, l2⟩
              · rw [n1] at c44; exact absurd (nI_lt (b := 3) g4 (by decide)) c44
            · exact absurd ((cL0 hs).mp c30) g3
          · exact absurd g2 c17
      · rw [hin] at c4; exact absurd c4 (by decide)
    · have hq : shQ K (nI j) c = false := by
        cases h8 : shQ K (nI j) c with
        | false => rfl
        | true =>
          exfalso
          unfold shQ at h8
          rw [hin, ← ec3] at h8
          simp at h8
          exact hg ⟨h8.1.1, h8.1.2, by omega⟩
      refine V_go C tk_GD_ship [] 52 ?_
      refine ⟨_, ⟨_, by decide, (ct_GD_isPlace _ h)⟩, fun r1 h1 p1 => ?_⟩
      obtain ⟨rfl, rfl⟩ := p1
      refine And.intro (fun c4 => ?_) (fun c4 => ?_)
      · refine And.intro (fun c12 => ?_) (fun c12 => ?_)
        · have hc3 : inR (c + 1) 3 = false := by rw [← ec3, decide_eq_false (Int32.not_le.mpr c12)]; rfl
          exact ⟨by unfold shV; rw [hin, hc3]; rfl, out hq, Fr.rf⟩
        · refine And.intro (fun c17 => ?_) (fun c17 => ?_)
          · refine And.intro (fun c30 => ?_) (fun c30 => ?_)
            · refine And.intro (fun c44 => ?_) (fun c44 => ?_)
              · rw [n1, show (3 : Int32) = nI 3 from rfl, nI_lt' (by omega) (by decide)] at c44; exact absurd ⟨⟨Int32.not_lt.mp c12, c17⟩, fun h9 => c30 ((cL0 hs).mpr h9), c44⟩ hg
              · have hc3 : inR (c + 1) 3 = true := by rw [← ec3, decide_eq_true (Int32.not_lt.mp c12), decide_eq_true c17]; rfl
                rw [cL0 hs] at c30
                have h3 : kN K = 3 := by
                  rw [n1, show (3 : Int32) = nI 3 from rfl, nI_lt' (by omega) (by decide)] at c44
                  omega
                exact ⟨by unfold shV; rw [hin, hc3, if_pos rfl, if_pos rfl, if_neg c30, if_pos h3], out hq, Fr.rf⟩
            · have hc3 : inR (c + 1) 3 = true := by rw [← ec3, decide_eq_true (Int32.not_lt.mp c12), decide_eq_true c17]; rfl
              rw [cL0 hs] at c30
              exact ⟨by unfold shV; rw [hin, hc3, if_pos rfl, if_pos rfl, if_pos c30], out hq, Fr.rf⟩
          · have hc3 : inR (c + 1) 3 = false := by rw [← ec3, decide_eq_false c17, Bool.and_false]
            exact ⟨by unfold shV; rw [hin, hc3]; rfl, out hq, Fr.rf⟩
      · rw [hin] at c4; exact absurd c4 (by decide)
theorem ct_GD_shipOf {K : KF} {A : AS} {q3 q4 : Nat → Int32} {F : Nat} {h : Hp} (hs : CSt K h) (hn : CN3 K A q3 q4 F h) (s what : Int32) : Ct 2 md_GD_shipOf [.ref 0, .int s, .int what] h (ex (.int (if inR s (kN K) then shipV K A s.toNatClampNeg what else -101)) h) := by
  refine Ct_of 6 rfl rfl rfl (fun X C => ?_)
  obtain ⟨n1, n2⟩ := hn.1
  have eM : (h.1 3 7).toInt = ((kN K : Nat) : Int) := by rw [n1]; exact nI_toI (by omega)
  cases hin : inR s (kN K) with
  | false =>
    refine V_go C tk_GD_shipOf [18] 68 ?_
    refine And.intro (fun c1 => ?_) (fun c1 => ?_)
    · exact ⟨by rw [hin]; rfl, rfl⟩
    · refine And.intro (fun c12 => ?_) (fun c12 => ?_)
      · rw [iR_3 eM c1 c12] at hin; cases hin
      · exact ⟨by rw [hin]; rfl, rfl⟩
  | true =>
    obtain ⟨j, hj, rfl⟩ := inR_t hin
    have e := nIc (i := j) (by omega)
    have hL5 := hs.1.1.2
    obtain ⟨⟨m1, m2⟩, ⟨m3, m4⟩, m5, m6⟩ := hn.2.1 j hj
    have hsl := shN_lt K (aP A j) hL5
    have hle : shN' K (aP A j) &&& lnB K A ≤ shN' K (aP A j) := Nat.and_le_left
    have fin : ∀ v : Int32, v = shipV K A j what → ex (.int (if inR (nI j) (kN K) then shipV K A (nI j).toNatClampNeg what else -101)) h (some (.int v)) h := by
      intro v hv
      exact ⟨by rw [hin, e, hv]; rfl, rfl⟩
    refine V_go C tk_GD_shipOf [] 68 ?_
    refine And.intro (fun c1 => ?_) (fun c1 => ?_)
    · exact absurd c1 (nI_pos (by omega))
    · refine And.intro (fun c12 => ?_) (fun c12 => ?_)
      · refine And.intro (fun c19 => ?_) (And.intro (fun c19 => ?_) (And.intro (fun c19 => ?_) (And.intro (fun c19 => ?_) (And.intro (fun c19 => ?_) trivial))))
        · refine fin _ ?_
          unfold shipV
          rw [if_neg (sw_out c19 (by decide) (by decide)), if_neg (sw_out c19 (by decide) (by decide)), if_neg (sw_out c19 (by decide) (by decide)), if_neg (sw_out c19 (by decide) (by decide))]
        · refine ⟨_, ⟨_, by decide, (ct_Row_at (r := 13) (a := 45) (n := 3) (by decide) rfl (by omega) h)⟩, fun r56 h56 p56 => ?_⟩
          obtain ⟨rfl, rfl⟩ := p56
          exact fin _ (by rw [c19, m1]; rfl)
        · refine ⟨_, ⟨_, by decide, (ct_Row_at (r := 14) (a := 46) (n := 3) (by decide) rfl (by omega) h)⟩, fun r68 h68 p68 => ?_⟩
          obtain ⟨rfl, rfl⟩ := p68
          exact fin _ (by rw [c19, m3]; rfl)
        · refine ⟨_, ⟨_, by decide, (ct_Row_at (r := 15) (a := 47) (n := 3) (by decide) rfl (by omega) h)⟩, fun r82 h82 p82 => ?_⟩
          obtain ⟨rfl, rfl⟩ := p82
          exact fin _ (by rw [c19, m5]; rfl)
        · refine ⟨_, ⟨_, by decide, (ct_Row_at (r := 13) (a := 45) (n := 3) (by decide) rfl (by omega) h)⟩, fun r101 h101 p101 => ?_⟩
          obtain ⟨rfl, rfl⟩ := p101
          refine ⟨_, ⟨_, by decide, (ct_Row_at (r := 12) (a := 44) (n := 10) (by decide) m1 m2 h)⟩, fun r104 h104 p104 => ?_⟩
          obtain ⟨rfl, rfl⟩ := p104
          refine ⟨_, ⟨_, by decide, (ct_Night_litNow_3 hs hn)⟩, fun r111 h111 p111 => ?_⟩
          obtain ⟨rfl, rfl⟩ := p111
          refine ⟨_, ⟨_, by decide, (ct_Integer_bitCount (b := shN' K (aP A j) &&& lnB K A) (by rw [hs.2 _ m2]; exact fa_and _ _) (by omega) h)⟩, fun r115 h115 p115 => ?_⟩
          obtain ⟨rfl, rfl⟩ := p115
          exact fin _ (by rw [c19, sh_pc K A _ _ hL5 (fun k hk => lnB_bit K A k hk)]; rfl)
      · rw [n1, nI_lt' (by omega) (by omega)] at c12; exact absurd hj c12
theorem ct_GD_ask {K : KF} {A : AS} {q3 q4 : Nat → Int32} {F : Nat} {h : Hp} (hs : CSt K h) (hn : CN3 K A q3 q4 F h) (k f : Int32) (t : Bool) : Ct 5 md_GD_ask [.ref 0, .int k, .int f, .int (tI t)] h (fun r h' => r = some (.int (askV K A F k f t)) ∧ CN3 K (askA K A F k f t) (ask3 K A q3 k f) (ask4 K A F q4 k f t) F h' ∧ Fr PN3 h h') := by
  refine Ct_of 6 rfl rfl rfl (fun X C => ?_)
  have out : askQ K A k f = false → CN3 K (askA K A F k f t) (ask3 K A q3 k f) (ask4 K A F q4 k f t) F h := by
    intro hq
    have e1 : askA K A F k f t = A := by unfold askA; rw [hq]; rfl
    have e2 : ask3 K A q3 k f = q3 := by funext j; unfold ask3; rw [hq]; rfl
    have e3 : ask4 K A F q4 k f t = q4 := by funext j; unfold ask4; rw [hq]; rfl
    rw [e1, e2, e3]
    exact hn
  cases hin : inR k (kL K) with
  | false =>
    refine V_go C tk_GD_ask [21] 49 ?_
    refine ⟨_, ⟨_, by decide, (ct_Strait_hasLight hs.1.1.1 hs.1.1.2 k)⟩, fun r5 h5 p5 => ?_⟩
    obtain ⟨rfl, rfl⟩ := p5
    refine And.intro (fun c8 => ?_) (fun c8 => ?_)
    · exact ⟨by unfold askV; rw [hin]; rfl, out (by unfold askQ; rw [hin]; rfl), Fr.rf⟩
    · rw [hin] at c8; exact absurd rfl c8
  | true =>
  cases hif : inR f 4 with
  | false =>
    refine V_go C tk_GD_ask [21] 49 ?_
    refine ⟨_, ⟨_, by decide, (ct_Strait_hasLight hs.1.1.1 hs.1.1.2 k)⟩, fun r5 h5 p5 => ?_⟩
    obtain ⟨rfl, rfl⟩ := p5
    refine And.intro (fun c8 => ?_) (fun c8 => ?_)
    · rw [hin] at c8; exact absurd c8 (by decide)
    · refine ⟨_, ⟨_, by decide, (ct_GD_isFact f h)⟩, fun r12 h12 p12 => ?_⟩
      obtain ⟨rfl, rfl⟩ := p12
      refine And.intro (fun c15 => ?_) (fun c15 => ?_)
      · rw [hif] at c15; exact absurd rfl c15
      · exact ⟨by unfold askV; rw [hin, hif]; rfl, out (by unfold askQ; rw [hin, hif]; rfl), Fr.rf⟩
  | true =>
    obtain ⟨j, hj, rfl⟩ := inR_t hin
    obtain ⟨g, hg, rfl⟩ := inR_t hif
    have hL5 := hs.1.1.2
    have ej := nIc (i := j) (by omega)
    have eg := nIc (i := g) (by omega)
    obtain ⟨⟨d1, d2⟩, -⟩ := hn.2.2.1 j hj
    by_cases hd : aD A j = 0
    · have hq : askQ K A (nI j) (nI g) = true := by unfold askQ; rw [hin, hif, ej, decide_eq_true hd]; rfl
      have e0 : askV K A F (nI j) (nI g) t = tI (ansY K A F j g t) := by unfold askV; rw [hin, hif, ej, eg, if_pos (by decide), if_pos hd]
      have e1 : askA K A F (nI j) (nI g) t = ansA K A j (ansY K A F j g t) := by unfold askA; rw [hq, ej, eg]; rfl
      have e2 : ask3 K A q3 (nI j) (nI g) = an33 q3 j := by
        funext i
        unfold ask3 an33
        rw [hq, ej]
        by_cases h9 : i = j
        · rw [if_pos h9, decide_eq_true h9]; rfl
        · rw [if_neg h9, decide_eq_false h9]; rfl
      have e3 : ask4 K A F q4 (nI j) (nI g) t = an43 q4 j (ansY K A F j g t) := by
        funext i
        unfold ask4 an43
        rw [hq, ej, eg]
        by_cases h9 : i = j
        · rw [decide_eq_true h9]
          cases ansY K A F j g t with
          | true => rw [if_neg (by decide), if_neg (fun h8 => by cases h8.2)]
          | false => rw [if_pos (by decide), if_pos ⟨h9, rfl⟩]
        · rw [decide_eq_false h9, if_neg (c := i = j ∧ ansY K A F j g t = false) (fun h8 => h9 h8.1)]; rfl
      rw [e0, e1, e2, e3] at C
      refine V_go C tk_GD_ask [] 49 ?_
      refine ⟨_, ⟨_, by decide, (ct_Strait_hasLight hs.1.1.1 hs.1.1.2 _)⟩, fun r5 h5 p5 => ?_⟩
      obtain ⟨rfl, rfl⟩ := p5
      refine And.intro (fun c8 => ?_) (fun c8 => ?_)
      · rw [hin] at c8; exact absurd c8 (by decide)
      · refine ⟨_, ⟨_, by decide, (ct_GD_isFact _ h)⟩, fun r12 h12 p12 => ?_⟩
        obtain ⟨rfl, rfl⟩ := p12
        refine And.intro (fun c15 => ?_) (fun c15 => ?_)
        · refine ⟨_, ⟨_, by decide, (ct_Row_at (r := 16) (a := 48) (n := 5) (by decide) rfl (by omega) h)⟩, fun r29 h29 p29 => ?_⟩
          rw [d1, hd] at p29
          obtain ⟨rfl, rfl⟩ := p29
          refine And.intro (fun c32 => ?_) (fun c32 => ?_)
          · refine ⟨_, ⟨_, by decide, (ct_Night_answer_3 hs hn hj hg t hd)⟩, fun r45 h45 p45 => ?_⟩
            obtain ⟨rfl, l1, l2⟩ := p45
            refine And.intro (fun c48 => ?_) (fun c48 => ?_)
            · rw [tI_0] at c48
              exact ⟨by rw [c48]; rfl, l1, l2⟩
            · rw [tI_n] at c48
              exact ⟨by rw [c48]; rfl, l1, l2⟩
          · exact absurd (by decide) c32
        · rw [hif] at c15; exact absurd c15 (by decide)
    · have hq : askQ K A (nI j) (nI g) = false := by unfold askQ; rw [ej, decide_eq_false hd, Bool.and_false]
      refine V_go C tk_GD_ask [38] 49 ?_
      refine ⟨_, ⟨_, by decide, (ct_Strait_hasLight hs.1.1.1 hs.1.1.2 _)⟩, fun r5 h5 p5 => ?_⟩
      obtain ⟨rfl, rfl⟩ := p5
      refine And.intro (fun c8 => ?_) (fun c8 => ?_)
      · rw [hin] at c8; exact absurd c8 (by decide)
      · refine ⟨_, ⟨_, by decide, (ct_GD_isFact _ h)⟩, fun r12 h12 p12 => ?_⟩
        obtain ⟨rfl, rfl⟩ := p12
        refine And.intro (fun c15 => ?_) (fun c15 => ?_)
        · refine ⟨_, ⟨_, by decide, (ct_Row_at (r := 16) (a := 48) (n := 5) (by decide) rfl (by omega) h)⟩, fun r29 h29 p29 => ?_⟩
          rw [d1] at p29
          obtain ⟨rfl, rfl⟩ := p29
          refine And.intro (fun c32 => ?_) (fun c32 => ?_)
          · exact absurd c32 (nI_ge (a := 0) (by omega) (by omega))
          · exact ⟨by unfold askV; rw [hin, hif, ej, if_pos (by decide), if_neg hd], out hq, Fr.rf⟩
        · rw [hif] at c15; exact absurd c15 (by decide)
theorem ct_GD_breath {K : KF} {A : AS} {q3 q4 : Nat → Int32} {F : Nat} {h : Hp} (hs : CSt K h) (hn : CN3 K A q3 q4 F h) : Ct 3 md_GD_breath [.ref 0] h (fun r h' => r = some (.int (brV K A)) ∧ CN3 K (brA K A) q3 q4 F h' ∧ Fr PN3 h h') := by
  refine Ct_of 6 rfl rfl rfl (fun X C => ?_)
  refine V_go C tk_GD_breath [] 30 ?_
  refine And.intro (fun c7 => ?_) (fun c7 => ?_)
  · refine ⟨_, ⟨_, by decide, (ct_Night_passBreath_3 hs hn)⟩, fun r19 h19 p19 => ?_⟩
    obtain ⟨rfl, l1, l2⟩ := p19
    rw [cL0 hs] at c7
    exact ⟨by unfold brV; rw [if_neg c7], by unfold brA; rw [if_neg c7]; exact l1, l2⟩
  · rw [cL0 hs] at c7
    exact ⟨by unfold brV; rw [if_pos c7], by unfold brA; rw [if_pos c7]; exact hn, Fr.rf⟩
theorem ct_GD_atOnce {K : KF} {A : AS} {q3 q4 : Nat → Int32} {F : Nat} {h : Hp} (hs : CSt K h) (hn : CN3 K A q3 q4 F h) (what : Int32) : Ct 4 md_GD_atOnce [.ref 0, .int what] h (ex (.int (onceV K A what)) h) := by
  refine Ct_of 6 rfl rfl rfl (fun X C => ?_)
  have ol := osF_le K A 31
  refine V_go C tk_GD_atOnce [] 44 ?_
  refine And.intro (fun c1 => ?_) (fun c1 => ?_)
  · exact ⟨by unfold onceV; rw [iR_1 c1]; rfl, rfl⟩
  · refine And.intro (fun c6 => ?_) (fun c6 => ?_)
    · refine And.intro (fun c19 => ?_) (fun c19 => ?_)
      · refine ⟨_, ⟨_, by decide, (ct_Night_greatestAtOnce hs hn)⟩, fun r29 h29 p29 => ?_⟩
        obtain ⟨rfl, rfl⟩ := p29
        refine And.intro (fun c34 => ?_) (fun c34 => ?_)
        · rw [cL0 hs] at c19
          exact ⟨by unfold onceV; rw [iR_5 (L := 2) rfl c1 c6, if_pos rfl, if_neg c19, if_neg c34], rfl⟩
        · refine ⟨_, ⟨_, by decide, (ct_Integer_bitCount (b := osF K A 31) rfl (by omega) h)⟩, fun r38 h38 p38 => ?_⟩
          obtain ⟨rfl, rfl⟩ := p38
          rw [cL0 hs] at c19
          exact ⟨by unfold onceV; rw [iR_5 (L := 2) rfl c1 c6, if_pos rfl, if_neg c19, if_pos c34], rfl⟩
      · rw [cL0 hs] at c19
        exact ⟨by unfold onceV; rw [iR_5 (L := 2) rfl c1 c6, if_pos rfl, if_pos c19], rfl⟩
    · exact ⟨by unfold onceV; rw [iR_4 (L := 2) rfl c6]; rfl, rfl⟩
