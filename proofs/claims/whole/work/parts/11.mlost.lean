/-- array a copied to b -/
def cpH (h : Hp) (a b n : Nat) : Hp := (fun x y => if x = b ∧ y < n then h.1 a y else h.1 x y, h.2)
theorem cpH_0 (h : Hp) (a b : Nat) : cpH h a b 0 = h := by
  unfold cpH
  simp
theorem cpH_s (h : Hp) {a b : Nat} (hab : a ≠ b) (i : Nat) : (up2 (cpH h a b i).1 b i ((cpH h a b i).1 a i), (cpH h a b i).2) = cpH h a b (i + 1) := by
  unfold cpH
  simp only [Prod.mk.injEq, and_true]
  funext x y
  unfold up2
  by_cases hx : x = b
  · subst hx
    by_cases hy : y = i
    · subst hy
      simp [hab]
    · simp only [hy, and_false, if_false, true_and]
      by_cases hyi : y < i
      · rw [if_pos hyi, if_pos (by omega)]
      · rw [if_neg hyi, if_neg (by omega)]
  · simp [hx]
def cpL : List (Nat × Nat × Nat) := [(78, 81, 5), (79, 82, 3), (80, 83, 3), (81, 78, 5), (82, 79, 3), (83, 80, 3), (76, 85, 25), (77, 86, 9), (84, 87, 40), (85, 76, 25), (86, 77, 9), (87, 84, 40)]
theorem ct_M_copy {a b n : Nat} (hm : (a, b, n) ∈ cpL) (h : Hp) : Ct 0 md_M_copy [.ref a, .ref b] h (exV (cpH h a b n)) := by
  simp only [cpL, List.mem_cons, Prod.mk.injEq, List.mem_nil_iff, or_false] at hm
  rcases hm with ⟨rfl, rfl, rfl⟩ | ⟨rfl, rfl, rfl⟩ | ⟨rfl, rfl, rfl⟩ | ⟨rfl, rfl, rfl⟩ | ⟨rfl, rfl, rfl⟩ | ⟨rfl, rfl, rfl⟩ | ⟨rfl, rfl, rfl⟩ | ⟨rfl, rfl, rfl⟩ | ⟨rfl, rfl, rfl⟩ | ⟨rfl, rfl, rfl⟩ | ⟨rfl, rfl, rfl⟩ | ⟨rfl, rfl, rfl⟩
  · refine Ct_of 7 rfl rfl rfl (fun X C => ?_)
    have loop : ∀ (n i : Nat) (b : Int32) (hh : Hp), i + n = 5 → b = nI i → hh = cpH h 78 81 i → V X 2 [some (.ref 78), some (.ref 81), some (.int b)] [] hh := by
      intro n
      induction n with
      | zero =>
        intro i b hh hi hb hhe
        subst hb
        obtain rfl : i = 5 := by omega
        refine V_go C tk_M_copy [2] 35 ?_
        refine And.intro (fun c5 => ?_) (fun c5 => ?_)
        · exact ⟨rfl, hhe.symm⟩
        · exact absurd (by decide) c5
      | succ n ih =>
        intro i b hh hi hb hhe
        subst hb
        have e3 := nIc (i := i) (by omega)
        refine V_go C tk_M_copy [2] 35 ?_
        refine And.intro (fun c5 => ?_) (fun c5 => ?_)
        · exact absurd c5 (nI_ge (b := 5) (by omega) (by decide))
        · refine And.intro (inn (by omega) (by decide)) ?_
          refine And.intro (inn (by omega) (by decide)) ?_
          exact ih (i + 1) _ _ (by omega) (nI_1 i) (by rw [e3, hhe]; exact cpH_s h (by decide) i)
    refine V_go C tk_M_copy [2] 35 ?_
    exact loop 5 0 _ _ (by omega) rfl (cpH_0 h _ _).symm
  · refine Ct_of 7 rfl rfl rfl (fun X C => ?_)
    have loop : ∀ (n i : Nat) (b : Int32) (hh : Hp), i + n = 3 → b = nI i → hh = cpH h 79 82 i → V X 2 [some (.ref 79), some (.ref 82), some (.int b)] [] hh := by
      intro n
      induction n with
      | zero =>
        intro i b hh hi hb hhe
        subst hb
        obtain rfl : i = 3 := by omega
        refine V_go C tk_M_copy [2] 35 ?_
        refine And.intro (fun c5 => ?_) (fun c5 => ?_)
        · exact ⟨rfl, hhe.symm⟩
        · exact absurd (by decide) c5
      | succ n ih =>
        intro i b hh hi hb hhe
        subst hb
        have e3 := nIc (i := i) (by omega)
        refine V_go C tk_M_copy [2] 35 ?_
        refine And.intro (fun c5 => ?_) (fun c5 => ?_)
        · exact absurd c5 (nI_ge (b := 3) (by omega) (by decide))
        · refine And.intro (inn (by omega) (by decide)) ?_
          refine And.intro (inn (by omega) (by decide)) ?_
          exact ih (i + 1) _ _ (by omega) (nI_1 i) (by rw [e3, hhe]; exact cpH_s h (by decide) i)
    refine V_go C tk_M_copy [2] 35 ?_
    exact loop 3 0 _ _ (by omega) rfl (cpH_0 h _ _).symm
  · refine Ct_of 7 rfl rfl rfl (fun X C => ?_)
    have loop : ∀ (n i : Nat) (b : Int32) (hh : Hp), i + n = 3 → b = nI i → hh = cpH h 80 83 i → V X 2 [some (.ref 80), some (.ref 83), some (.int b)] [] hh := by
      intro n
      induction n with
      | zero =>
        intro i b hh hi hb hhe
        subst hb
        obtain rfl : i = 3 := by omega
        refine V_go C tk_M_copy [2] 35 ?_
        refine And.intro (fun c5 => ?_) (fun c5 => ?_)
        · exact ⟨rfl, hhe.symm⟩
        · exact absurd (by decide) c5
      | succ n ih =>
        intro i b hh hi hb hhe
        subst hb
        have e3 := nIc (i := i) (by omega)
        refine V_go C tk_M_copy [2] 35 ?_
        refine And.intro (fun c5 => ?_) (fun c5 => ?_)
        · exact absurd c5 (nI_ge (b := 3) (by omega) (by decide))
        · refine And.intro (inn (by omega) (by decide)) ?_
          refine And.intro (inn (by omega) (by decide)) ?_
          exact ih (i + 1) _ _ (by omega) (nI_1 i) (by rw [e3, hhe]; exact cpH_s h (by decide) i)
    refine V_go C tk_M_copy [2] 35 ?_
    exact loop 3 0 _ _ (by omega) rfl (cpH_0 h _ _).symm
  · refine Ct_of 7 rfl rfl rfl (fun X C => ?_)
    have loop : ∀ (n i : Nat) (b : Int32) (hh : Hp), i + n = 5 → b = nI i → hh = cpH h 81 78 i → V X 2 [some (.ref 81), some (.ref 78), some (.int b)] [] hh := by
      intro n
      induction n with
      | zero =>
        intro i b hh hi hb hhe
        subst hb
        obtain rfl : i = 5 := by omega
        refine V_go C tk_M_copy [2] 35 ?_
        refine And.intro (fun c5 => ?_) (fun c5 => ?_)
        · exact ⟨rfl, hhe.symm⟩
        · exact absurd (by decide) c5
      | succ n ih =>
        intro i b hh hi hb hhe
        subst hb
        have e3 := nIc (i := i) (by omega)
        refine V_go C tk_M_copy [2] 35 ?_
        refine And.intro (fun c5 => ?_) (fun c5 => ?_)
        · exact absurd c5 (nI_ge (b := 5) (by omega) (by decide))
        · refine And.intro (inn (by omega) (by decide)) ?_
          refine And.intro (inn (by omega) (by decide)) ?_
          exact ih (i + 1) _ _ (by omega) (nI_1 i) (by rw [e3, hhe]; exact cpH_s h (by decide) i)
    refine V_go C tk_M_copy [2] 35 ?_
    exact loop 5 0 _ _ (by omega) rfl (cpH_0 h _ _).symm
  · refine Ct_of 7 rfl rfl rfl (fun X C => ?_)
    have loop : ∀ (n i : Nat) (b : Int32) (hh : Hp), i + n = 3 → b = nI i → hh = cpH h 82 79 i → V X 2 [some (.ref 82), some (.ref 79), some (.int b)] [] hh := by
      intro n
      induction n with
      | zero =>
        intro i b hh hi hb hhe
        subst hb
        obtain rfl : i = 3 := by omega
        refine V_go C tk_M_copy [2] 35 ?_
        refine And.intro (fun c5 => ?_) (fun c5 => ?_)
        · exact ⟨rfl, hhe.symm⟩
        · exact absurd (by decide) c5
      | succ n ih =>
        intro i b hh hi hb hhe
        subst hb
        have e3 := nIc (i := i) (by omega)
        refine V_go C tk_M_copy [2] 35 ?_
        refine And.intro (fun c5 => ?_) (fun c5 => ?_)
        · exact absurd c5 (nI_ge (b := 3) (by omega) (by decide))
        · refine And.intro (inn (by omega) (by decide)) ?_
          refine And.intro (inn (by omega) (by decide)) ?_
          exact ih (i + 1) _ _ (by omega) (nI_1 i) (by rw [e3, hhe]; exact cpH_s h (by decide) i)
    refine V_go C tk_M_copy [2] 35 ?_
    exact loop 3 0 _ _ (by omega) rfl (cpH_0 h _ _).symm
  · refine Ct_of 7 rfl rfl rfl (fun X C => ?_)
    have loop : ∀ (n i : Nat) (b : Int32) (hh : Hp), i + n = 3 → b = nI i → hh = cpH h 83 80 i → V X 2 [some (.ref 83), some (.ref 80), some (.int b)] [] hh := by
      intro n
      induction n with
      | zero =>
        intro i b hh hi hb hhe
        subst hb
        obtain rfl : i = 3 := by omega
        refine V_go C tk_M_copy [2] 35 ?_
        refine And.intro (fun c5 => ?_) (fun c5 => ?_)
        · exact ⟨rfl, hhe.symm⟩
        · exact absurd (by decide) c5
      | succ n ih =>
        intro i b hh hi hb hhe
        subst hb
        have e3 := nIc (i := i) (by omega)
        refine V_go C tk_M_copy [2] 35 ?_
        refine And.intro (fun c5 => ?_) (fun c5 => ?_)
        · exact absurd c5 (nI_ge (b := 3) (by omega) (by decide))
        · refine And.intro (inn (by omega) (by decide)) ?_
          refine And.intro (inn (by omega) (by decide)) ?_
          exact ih (i + 1) _ _ (by omega) (nI_1 i) (by rw [e3, hhe]; exact cpH_s h (by decide) i)
    refine V_go C tk_M_copy [2] 35 ?_
    exact loop 3 0 _ _ (by omega) rfl (cpH_0 h _ _).symm
  · refine Ct_of 7 rfl rfl rfl (fun X C => ?_)
    have loop : ∀ (n i : Nat) (b : Int32) (hh : Hp), i + n = 25 → b = nI i → hh = cpH h 76 85 i → V X 2 [some (.ref 76), some (.ref 85), some (.int b)] [] hh := by
      intro n
      induction n with
      | zero =>
        intro i b hh hi hb hhe
        subst hb
        obtain rfl : i = 25 := by omega
        refine V_go C tk_M_copy [2] 35 ?_
        refine And.intro (fun c5 => ?_) (fun c5 => ?_)
        · exact ⟨rfl, hhe.symm⟩
        · exact absurd (by decide) c5
      | succ n ih =>
        intro i b hh hi hb hhe
        subst hb
        have e3 := nIc (i := i) (by omega)
        refine V_go C tk_M_copy [2] 35 ?_
        refine And.intro (fun c5 => ?_) (fun c5 => ?_)
        · exact absurd c5 (nI_ge (b := 25) (by omega) (by decide))
        · refine And.intro (inn (by omega) (by decide)) ?_
          refine And.intro (inn (by omega) (by decide)) ?_
          exact ih (i + 1) _ _ (by omega) (nI_1 i) (by rw [e3, hhe]; exact cpH_s h (by decide) i)
    refine V_go C tk_M_copy [2] 35 ?_
    exact loop 25 0 _ _ (by omega) rfl (cpH_0 h _ _).symm
  · refine Ct_of 7 rfl rfl rfl (fun X C => ?_)
    have loop : ∀ (n i : Nat) (b : Int32) (hh : Hp), i + n = 9 → b = nI i → hh = cpH h 77 86 i → V X 2 [some (.ref 77), some (.ref 86), some (.int b)] [] hh := by
      intro n
      induction n with
      | zero =>
        intro i b hh hi hb hhe
        subst hb
        obtain rfl : i = 9 := by omega
        refine V_go C tk_M_copy [2] 35 ?_
        refine And.intro (fun c5 => ?_) (fun c5 => ?_)
        · exact ⟨rfl, hhe.symm⟩
        · exact absurd (by decide) c5
      | succ n ih =>
        intro i b hh hi hb hhe
        subst hb
        have e3 := nIc (i := i) (by omega)
        refine V_go C tk_M_copy [2] 35 ?_
        refine And.intro (fun c5 => ?_) (fun c5 => ?_)
        · exact absurd c5 (nI_ge (b := 9) (by omega) (by decide))
        · refine And.intro (inn (by omega) (by decide)) ?_
          refine And.intro (inn (by omega) (by decide)) ?_
          exact ih (i + 1) _ _ (by omega) (nI_1 i) (by rw [e3, hhe]; exact cpH_s h (by decide) i)
    refine V_go C tk_M_copy [2] 35 ?_
    exact loop 9 0 _ _ (by omega) rfl (cpH_0 h _ _).symm
  · refine Ct_of 7 rfl rfl rfl (fun X C => ?_)
    have loop : ∀ (n i : Nat) (b : Int32) (hh : Hp), i + n = 40 → b = nI i → hh = cpH h 84 87 i → V X 2 [some (.ref 84), some (.ref 87), some (.int b)] [] hh := by
      intro n
      induction n with
      | zero =>
        intro i b hh hi hb hhe
        subst hb
        obtain rfl : i = 40 := by omega
        refine V_go C tk_M_copy [2] 35 ?_
        refine And.intro (fun c5 => ?_) (fun c5 => ?_)
        · exact ⟨rfl, hhe.symm⟩
        · exact absurd (by decide) c5
      | succ n ih =>
        intro i b hh hi hb hhe
        subst hb
        have e3 := nIc (i := i) (by omega)
        refine V_go C tk_M_copy [2] 35 ?_
        refine And.intro (fun c5 => ?_) (fun c5 => ?_)
        · exact absurd c5 (nI_ge (b := 40) (by omega) (by decide))
        · refine And.intro (inn (by omega) (by decide)) ?_
          refine And.intro (inn (by omega) (by decide)) ?_
          exact ih (i + 1) _ _ (by omega) (nI_1 i) (by rw [e3, hhe]; exact cpH_s h (by decide) i)
    refine V_go C tk_M_copy [2] 35 ?_
    exact loop 40 0 _ _ (by omega) rfl (cpH_0 h _ _).symm
  · refine Ct_of 7 rfl rfl rfl (fun X C => ?_)
    have loop : ∀ (n i : Nat) (b : Int32) (hh : Hp), i + n = 25 → b = nI i → hh = cpH h 85 76 i → V X 2 [some (.ref 85), some (.ref 76), some (.int b)] [] hh := by
      intro n
      induction n with
      | zero =>
        intro i b hh hi hb hhe
        subst hb
        obtain rfl : i = 25 := by omega
        refine V_go C tk_M_copy [2] 35 ?_
        refine And.intro (fun c5 => ?_) (fun c5 => ?_)
        · exact ⟨rfl, hhe.symm⟩
        · exact absurd (by decide) c5
      | succ n ih =>
        intro i b hh hi hb hhe
        subst hb
        have e3 := nIc (i := i) (by omega)
        refine V_go C tk_M_copy [2] 35 ?_
        refine And.intro (fun c5 => ?_) (fun c5 => ?_)
        · exact absurd c5 (nI_ge (b := 25) (by omega) (by decide))
        · refine And.intro (inn (by omega) (by decide)) ?_
          refine And.intro (inn (by omega) (by decide)) ?_
          exact ih (i + 1) _ _ (by omega) (nI_1 i) (by rw [e3, hhe]; exact cpH_s h (by decide) i)
    refine V_go C tk_M_copy [2] 35 ?_
    exact loop 25 0 _ _ (by omega) rfl (cpH_0 h _ _).symm
  · refine Ct_of 7 rfl rfl rfl (fun X C => ?_)
    have loop : ∀ (n i : Nat) (b : Int32) (hh : Hp), i + n = 9 → b = nI i → hh = cpH h 86 77 i → V X 2 [some (.ref 86), some (.ref 77), some (.int b)] [] hh := by
      intro n
      induction n with
      | zero =>
        intro i b hh hi hb hhe
        subst hb
        obtain rfl : i = 9 := by omega
        refine V_go C tk_M_copy [2] 35 ?_
        refine And.intro (fun c5 => ?_) (fun c5 => ?_)
        · exact ⟨rfl, hhe.symm⟩
        · exact absurd (by decide) c5
      | succ n ih =>
        intro i b hh hi hb hhe
        subst hb
        have e3 := nIc (i := i) (by omega)
        refine V_go C tk_M_copy [2] 35 ?_
        refine And.intro (fun c5 => ?_) (fun c5 => ?_)
        · exact absurd c5 (nI_ge (b := 9) (by omega) (by decide))
        · refine And.intro (inn (by omega) (by decide)) ?_
          refine And.intro (inn (by omega) (by decide)) ?_
          exact ih (i + 1) _ _ (by omega) (nI_1 i) (by rw [e3, hhe]; exact cpH_s h (by decide) i)
    refine V_go C tk_M_copy [2] 35 ?_
    exact loop 9 0 _ _ (by omega) rfl (cpH_0 h _ _).symm
  · refine Ct_of 7 rfl rfl rfl (fun X C => ?_)
    have loop : ∀ (n i : Nat) (b : Int32) (hh : Hp), i + n = 40 → b = nI i → hh = cpH h 87 84 i → V X 2 [some (.ref 87), some (.ref 84), some (.int b)] [] hh := by
      intro n
      induction n with
      | zero =>
        intro i b hh hi hb hhe
        subst hb
        obtain rfl : i = 40 := by omega
        refine V_go C tk_M_copy [2] 35 ?_
        refine And.intro (fun c5 => ?_) (fun c5 => ?_)
        · exact ⟨rfl, hhe.symm⟩
        · exact absurd (by decide) c5
      | succ n ih =>
        intro i b hh hi hb hhe
        subst hb
        have e3 := nIc (i := i) (by omega)
        refine V_go C tk_M_copy [2] 35 ?_
        refine And.intro (fun c5 => ?_) (fun c5 => ?_)
        · exact absurd c5 (nI_ge (b := 40) (by omega) (by decide))
        · refine And.intro (inn (by omega) (by decide)) ?_
          refine And.intro (inn (by omega) (by decide)) ?_
          exact ih (i + 1) _ _ (by omega) (nI_1 i) (by rw [e3, hhe]; exact cpH_s h (by decide) i)
    refine V_go C tk_M_copy [2] 35 ?_
    exact loop 40 0 _ _ (by omega) rfl (cpH_0 h _ _).symm
theorem shN : ∀ n, n < 32 → ((nI n &&& 31).toBitVec.smod 32).toNat = n := by decide +kernel
/-- the lights of a set gone dark -/
def P8 (a _b : Nat) : Prop := a = 81 ∨ a = 82 ∨ a = 83
def P9 (a b : Nat) : Prop := P7 a b ∨ P8 a b
theorem bitAt {m k : Nat} (hm : m < 65536) (hk : k < 31) : (nI m >>> (nI k &&& 31)) &&& 1 = nI (m / 2 ^ k % 2) := by
  have h1 : nI m >>> (nI k &&& 31) = nI (m / 2 ^ k) := pk_shrN (by omega) (nI k &&& 31) k (shN k (by omega))
  rw [h1]
  have h2 : m / 2 ^ k < 65536 := Nat.lt_of_le_of_lt (Nat.div_le_self _ _) hm
  exact pk_andN (by omega) 1 rfl
theorem bitAt1 {m k : Nat} (hm : m < 65536) (hk : k < 31) : (nI m >>> (nI k &&& 31)) &&& 1 = 1 ↔ m.testBit k = true := by
  rw [bitAt hm hk, Nat.testBit_eq_decide_div_mod_eq]
  have : m / 2 ^ k % 2 < 2 := Nat.mod_lt _ (by decide)
  rw [show (1 : Int32) = nI 1 from rfl, nI_eq (by omega) (by decide), decide_eq_true_iff]
def P10 (a b : Nat) : Prop := a = 78 ∧ b < 5
theorem Fr.cp {P : Nat → Nat → Prop} {h h1 : Hp} {a b n : Nat} (f : Fr P h h1) (hp : ∀ y, y < n → P b y) : Fr P h (cpH h1 a b n) := ⟨fun i j hn => by
  show (if i = b ∧ j < n then h1.1 a j else h1.1 i j) = h.1 i j
  rw [if_neg (fun h9 => hn (by rw [h9.1]; exact hp j h9.2))]
  exact f.1 i j hn, f.2⟩
theorem cpH_in (h : Hp) (a b n : Nat) {y : Nat} (hy : y < n) : (cpH h a b n).1 b y = h.1 a y := by
  show (if b = b ∧ y < n then h.1 a y else h.1 b y) = _
  rw [if_pos ⟨rfl, hy⟩]
theorem cpH_out (h : Hp) (a b n : Nat) {x y : Nat} (hx : x ≠ b ∨ n ≤ y) : (cpH h a b n).1 x y = h.1 x y := by
  show (if x = b ∧ y < n then h.1 a y else h.1 x y) = _
  rw [if_neg (by omega)]
theorem ct_M_lostBy {K : KF} {A : AS} {h : Hp} (hs : MS K h) (hx : MX K A h) {set : Nat} (hset : set < 65536) : Ct 3 md_M_lostBy [.ref 73, .int (nI set)] h (fun r h' => r = some (.int (nI (lostBy K A set))) ∧ Fr P8 h h') := by
  refine Ct_of 7 rfl rfl rfl (fun X C => ?_)
  obtain ⟨⟨hL, hL5⟩, -, ⟨hD, hD9⟩, -, ⟨hN, hN3⟩, hc⟩ := id hs
  obtain ⟨x1, x2, x3⟩ := id hx
  have ms : ∀ {hh : Hp}, Fr P9 h hh → MS K hh := fun hf => hs.fr hf (fun a b h9 => by unfold P9 P7 P8 at h9; omega)
  have loop3 : ∀ (n i acc : Nat) (a b : Int32) (hh : Hp) (B : AS), i + n = kD K → a = nI acc → acc + lostIn K n B = lostBy K A set → b = nI i → MX K B hh → Fr P9 h hh → ((∀ j, j < 5 → hh.1 81 j = h.1 78 j) ∧ (∀ j, j < 3 → hh.1 82 j = h.1 79 j) ∧ ∀ j, j < 3 → hh.1 83 j = h.1 80 j) → V X 87 [some (.ref 73), some (.int (nI set)), some (.int (h.1 73 19)), some (.int a), some (.int b)] [] hh := by
    intro n
    induction n with
    | zero =>
      intro i acc a b hh B hi ha hac hb hxx hf hsv
      subst hb
      have e1 : hh.1 73 9 = nI i := by rw [(ms hf).2.2.1.1]; congr 1; omega
      refine V_go C tk_M_lostBy [40, 87] 99 ?_
      refine And.intro (fun c93 => ?_) (fun c93 => ?_)
      · refine ⟨_, ⟨_, by decide, (ct_M_copy (a := 81) (b := 78) (n := 5) (by decide) _)⟩, fun r117 h117 p117 => ?_⟩
        obtain ⟨rfl, rfl⟩ := p117
        refine ⟨_, ⟨_, by decide, (ct_M_copy (a := 82) (b := 79) (n := 3) (by decide) _)⟩, fun r128 h128 p128 => ?_⟩
        obtain ⟨rfl, rfl⟩ := p128
        refine ⟨_, ⟨_, by decide, (ct_M_copy (a := 83) (b := 80) (n := 3) (by decide) _)⟩, fun r139 h139 p139 => ?_⟩
        obtain ⟨rfl, rfl⟩ := p139
        refine ⟨by rw [ha, ← hac]; rfl, fun x y hn => ?_, hf.2⟩
        show up2 (cpH (cpH (cpH hh 81 78 5) 82 79 3) 83 80 3).1 73 19 (h.1 73 19) x y = h.1 x y
        by_cases h19 : x = 73 ∧ y = 19
        · obtain ⟨rfl, rfl⟩ := h19
          rw [up2_s]
        · have e0 : up2 (cpH (cpH (cpH hh 81 78 5) 82 79 3) 83 80 3).1 73 19 (h.1 73 19) x y = (cpH (cpH (cpH hh 81 78 5) 82 79 3) 83 80 3).1 x y := by
            unfold up2
            rw [if_neg h19]
          rw [e0]
          by_cases h80 : x = 80 ∧ y < 3
          · obtain ⟨rfl, hy⟩ := h80
            rw [cpH_in _ _ _ _ hy, cpH_out _ _ _ _ (by omega), cpH_out _ _ _ _ (by omega)]
            exact hsv.2.2 y hy
          · rw [cpH_out _ _ _ _ (by omega)]
            by_cases h79 : x = 79 ∧ y < 3
            · obtain ⟨rfl, hy⟩ := h79
              rw [cpH_in _ _ _ _ hy, cpH_out _ _ _ _ (by omega)]
              exact hsv.2.1 y hy
            · rw [cpH_out _ _ _ _ (by omega)]
              by_cases h78 : x = 78 ∧ y < 5
              · obtain ⟨rfl, hy⟩ := h78
                rw [cpH_in _ _ _ _ hy]
                exact hsv.1 y hy
              · rw [cpH_out _ _ _ _ (by omega)]
                exact hf.1 x y (by unfold P9 P7; unfold P8 at *; omega)
      · exact absurd (nle e1) c93
    | succ n ih =>
      intro i acc a b hh B hi ha hac hb hxx hf hsv
      subst hb
      have hm := ms hf
      have e1 : hh.1 73 9 = nI (kD K) := hm.2.2.1.1
      refine V_go C tk_M_lostBy [40, 87] 99 ?_
      refine And.intro (fun c93 => ?_) (fun c93 => ?_)
      · exact absurd c93 (nge (by omega) (by omega) e1)
      · refine ⟨_, ⟨_, by decide, (ct_M_goesBy hm hxx)⟩, fun r98 h98 p98 => ?_⟩
        obtain ⟨rfl, px, pf⟩ := p98
        refine ih (i + 1) (acc + lostN K B) _ _ _ (stepA K B) (by omega) (by rw [ha]; exact nI_add _ _) ?_ (nI_1 i) px (hf.tr (pf.mono (fun _ _ h9 => Or.inl h9))) ⟨fun j hj => ?_, fun j hj => ?_, fun j hj => ?_⟩
        · rw [← hac]
          show acc + lostN K B + lostIn K n (stepA K B) = acc + (lostN K B + lostIn K n (stepA K B))
          omega
        · rw [pf.1 81 j (by unfold P7; omega)]
          exact hsv.1 j hj
        · rw [pf.1 82 j (by unfold P7; omega)]
          exact hsv.2.1 j hj
        · rw [pf.1 83 j (by unfold P7; omega)]
          exact hsv.2.2 j hj
  have loop1 : ∀ (n i : Nat) (b : Int32) (w : Option Value) (hh : Hp), i + n = kL K → b = nI i → Fr P9 h hh → ((∀ j, j < 5 → hh.1 81 j = h.1 78 j) ∧ (∀ j, j < 3 → hh.1 82 j = h.1 79 j) ∧ ∀ j, j < 3 → hh.1 83 j = h.1 80 j) → (∀ s, s < kN K → hh.1 79 s = h.1 79 s ∧ hh.1 80 s = h.1 80 s) → hh.1 73 19 = h.1 73 19 → (∀ k, k < kL K → (k < i → hh.1 78 k = nI (aD (goDark K A set) k)) ∧ (i ≤ k → hh.1 78 k = nI (aD A k))) → V X 40 [some (.ref 73), some (.int (nI set)), some (.int (h.1 73 19)), some (.int b), w] [] hh := by
    intro n
    induction n with
    | zero =>
      intro i b w hh hi hb hf hsv hq h19 hk
      subst hb
      have e1 : hh.1 73 7 = nI i := by rw [(ms hf).1.1]; congr 1; omega
      refine V_go C tk_M_lostBy [40, 87] 99 ?_
      refine And.intro (fun c45 => ?_) (fun c45 => ?_)
      · refine loop3 (kD K) 0 0 _ _ _ (goDark K A set) (by omega) rfl (by unfold lostBy; omega) rfl ⟨fun k hk' => ⟨(hk k hk').1 (by omega), ?_⟩, fun s hs' => ⟨⟨?_, (x2 s hs').1.2⟩, ?_, (x2 s hs').2.2⟩, ?_⟩ hf hsv
        · show (if set.testBit k then kD K else aD A k) ≤ 9
          have := (x1 k hk').2
          split <;> omega
        · rw [(hq s hs').1]
          exact (x2 s hs').1.1
        · rw [(hq s hs').2]
          exact (x2 s hs').2.1
        · rw [h19]
          exact x3
      · exact absurd (nle e1) c45
    | succ n ih =>
      intro i b w hh hi hb hf hsv hq h19 hk
      subst hb
      have hi5 : i < kL K := by omega
      have e1 : hh.1 73 7 = nI (kL K) := (ms hf).1.1
      have e9 : hh.1 73 9 = nI (kD K) := (ms hf).2.2.1.1
      have e3 := nIc (i := i) (by omega)
      have eb := bitAt1 (m := set) (k := i) hset (by omega)
      have stp : ∀ v : Int32, v = nI (aD (goDark K A set) i) → V X 40 [some (.ref 73), some (.int (nI set)), some (.int (h.1 73 19)), some (.int (nI i + 1)), w] [] (up2 hh.1 78 i v, hh.2) := by
        intro v hv
        refine ih (i + 1) _ _ _ (by omega) (nI_1 i) (hf.up (by unfold P9 P7; omega)) ?_ ?_ ?_ (fun k hk' => ?_)
        · simp [up2]
          exact hsv
        · simp [up2]
          exact hq
        · simp [up2]
          exact h19
        · refine ⟨fun h2 => ?_, fun h2 => ?_⟩
          · by_cases hki : k = i
            · subst hki
              simp [up2]
              exact hv
            · simp [up2, hki]
              exact (hk k hk').1 (by omega)
          · have hki : k ≠ i := by omega
            simp [up2, hki]
            exact (hk k hk').2 (by omega)
      refine V_go C tk_M_lostBy [40, 87] 99 ?_
      refine And.intro (fun c45 => ?_) (fun c45 => ?_)
      · exact absurd c45 (nge (by omega) (by omega) e1)
      · refine And.intro (fun c59 => ?_) (fun c59 => ?_)
        · refine And.intro (inn (by omega) (by decide)) ?_
          refine And.intro (inn (by omega) (by decide)) ?_
          rw [eb] at c59
          have := stp (hh.1 78 i) (by rw [(hk i hi5).2 (Nat.le_refl i)]; show _ = nI (if set.testBit i then kD K else aD A i); rw [if_neg c59])
          rw [← e3] at this
          rw [e3] at this ⊢
          exact this
        · refine And.intro (inn (by omega) (by decide)) ?_
          rw [eb] at c59
          have := stp (hh.1 73 9) (by rw [e9]; show _ = nI (if set.testBit i then kD K else aD A i); rw [if_pos c59])
          rw [← e3] at this
          rw [e3] at this ⊢
          exact this
  refine V_go C tk_M_lostBy [40, 87] 99 ?_
  refine ⟨_, ⟨_, by decide, (ct_M_copy (a := 78) (b := 81) (n := 5) (by decide) _)⟩, fun r13 h13 p13 => ?_⟩
  obtain ⟨rfl, rfl⟩ := p13
  refine ⟨_, ⟨_, by decide, (ct_M_copy (a := 79) (b := 82) (n := 3) (by decide) _)⟩, fun r24 h24 p24 => ?_⟩
  obtain ⟨rfl, rfl⟩ := p24
  refine ⟨_, ⟨_, by decide, (ct_M_copy (a := 80) (b := 83) (n := 3) (by decide) _)⟩, fun r35 h35 p35 => ?_⟩
  obtain ⟨rfl, rfl⟩ := p35
  refine loop1 (kL K) 0 _ _ _ (by omega) rfl (((Fr.rf.cp ?_).cp ?_).cp ?_) ⟨fun j hj => ?_, fun j hj => ?_, fun j hj => ?_⟩ (fun s hs' => ⟨?_, ?_⟩) ?_ (fun k hk' => ⟨fun h9 => absurd h9 (by omega), fun _ => ?_⟩)
  · intro y hy; unfold P9 P8; omega
  · intro y hy; unfold P9 P8; omega
  · intro y hy; unfold P9 P8; omega
  · rw [cpH_out _ _ _ _ (by omega), cpH_out _ _ _ _ (by omega), cpH_in _ _ _ _ hj]
  · rw [cpH_out _ _ _ _ (by omega), cpH_in _ _ _ _ hj, cpH_out _ _ _ _ (by omega)]
  · rw [cpH_in _ _ _ _ hj, cpH_out _ _ _ _ (by omega), cpH_out _ _ _ _ (by omega)]
  · rw [cpH_out _ _ _ _ (by omega), cpH_out _ _ _ _ (by omega), cpH_out _ _ _ _ (by omega)]
  · rw [cpH_out _ _ _ _ (by omega), cpH_out _ _ _ _ (by omega), cpH_out _ _ _ _ (by omega)]
  · rw [cpH_out _ _ _ _ (by omega), cpH_out _ _ _ _ (by omega), cpH_out _ _ _ _ (by omega)]
  · rw [cpH_out _ _ _ _ (by omega), cpH_out _ _ _ _ (by omega), cpH_out _ _ _ _ (by omega)]
    exact (x1 k hk').1
