/-! ===== the class: its public methods, heard to count ===== -/
theorem ct_GD_hear {K : KF} {H : HD} {h : Hp} (hs : CSt K h) (hr : CH6 H h) (k f : Int32) (t : Bool) (b : Int32) (y : Bool) : Ct 2 md_GD_hear [.ref 0, .int k, .int f, .int (tI t), .int b, .int (tI y)] h (fun r h' => r = some (.int (hrV K H k f b)) ∧ CH6 (hrH K H k f t b y) h' ∧ Fr PH6 h h') := by
  refine Ct_of 6 rfl rfl rfl (fun X C => ?_)
  obtain ⟨n1, n2⟩ := hr.1
  have out : hrQ K H k f b = false → CH6 (hrH K H k f t b y) h := by intro hq; unfold hrH; rw [hq]; exact hr
  cases hin : inR k (kL K) with
  | false =>
    refine V_go C tk_GD_hear [21] 56 ?_
    refine ⟨_, ⟨_, by decide, (ct_Strait_hasLight hs.1.1.1 hs.1.1.2 k)⟩, fun r5 h5 p5 => ?_⟩
    obtain ⟨rfl, rfl⟩ := p5
    refine And.intro (fun c8 => ?_) (fun c8 => ?_)
    · exact ⟨by unfold hrV; rw [hin]; rfl, out (by unfold hrQ; rw [hin]; rfl), Fr.rf⟩
    · rw [hin] at c8; exact absurd rfl c8
  | true =>
  cases hif : inR f 4 with
  | false =>
    refine V_go C tk_GD_hear [21] 56 ?_
    refine ⟨_, ⟨_, by decide, (ct_Strait_hasLight hs.1.1.1 hs.1.1.2 k)⟩, fun r5 h5 p5 => ?_⟩
    obtain ⟨rfl, rfl⟩ := p5
    refine And.intro (fun c8 => ?_) (fun c8 => ?_)
    · rw [hin] at c8; exact absurd c8 (by decide)
    · refine ⟨_, ⟨_, by decide, (ct_GD_isFact f h)⟩, fun r12 h12 p12 => ?_⟩
      obtain ⟨rfl, rfl⟩ := p12
      refine And.intro (fun c15 => ?_) (fun c15 => ?_)
      · rw [hif] at c15; exact absurd rfl c15
      · exact ⟨by unfold hrV; rw [hin, hif]; rfl, out (by unfold hrQ; rw [hin, hif]; rfl), Fr.rf⟩
  | true =>
    obtain ⟨j, hj, rfl⟩ := inR_t hin
    obtain ⟨g, hg, rfl⟩ := inR_t hif
    have hL5 := hs.1.1.2
    have ej := nIc (i := j) (by omega)
    have eg := nIc (i := g) (by omega)
    by_cases h8 : dM H = 8
    · skip
      refine V_go C tk_GD_hear [] 56 ?_
      refine ⟨_, ⟨_, by decide, (ct_Strait_hasLight hs.1.1.1 hs.1.1.2 _)⟩, fun r5 h5 p5 => ?_⟩
      obtain ⟨rfl, rfl⟩ := p5
      refine And.intro (fun c8 => ?_) (fun c8 => ?_)
      · rw [hin] at c8; exact absurd c8 (by decide)
      · refine ⟨_, ⟨_, by decide, (ct_GD_isFact _ h)⟩, fun r12 h12 p12 => ?_⟩
        obtain ⟨rfl, rfl⟩ := p12
        refine And.intro (fun c15 => ?_) (fun c15 => ?_)
        · refine And.intro (fun c23 => ?_) (fun c23 => ?_)
          · exact ⟨by unfold hrV; rw [hin, hif, iR_1 c23]; rfl, out (by unfold hrQ; rw [hin, hif, iR_1 c23]; rfl), Fr.rf⟩
          · refine And.intro (fun c30 => ?_) (fun c30 => ?_)
            · refine And.intro (fun c45 => ?_) (fun c45 => ?_)
              · rw [n1, h8] at c45; exact absurd c45 (by decide)
              · exact ⟨by unfold hrV; rw [hin, hif, iR_5 (L := 100) rfl c23 c30, if_pos (by decide), if_pos rfl, if_pos h8], out (by unfold hrQ; rw [decide_eq_true h8, Bool.not_true, Bool.and_false]), Fr.rf⟩
            · exact ⟨by unfold hrV; rw [hin, hif, iR_4 (L := 100) rfl c30]; rfl, out (by unfold hrQ; rw [hin, hif, iR_4 (L := 100) rfl c30]; rfl), Fr.rf⟩
        · rw [hif] at c15; exact absurd c15 (by decide)
    · skip
      refine V_go C tk_GD_hear [] 56 ?_
      refine ⟨_, ⟨_, by decide, (ct_Strait_hasLight hs.1.1.1 hs.1.1.2 _)⟩, fun r5 h5 p5 => ?_⟩
      obtain ⟨rfl, rfl⟩ := p5
      refine And.intro (fun c8 => ?_) (fun c8 => ?_)
      · rw [hin] at c8; exact absurd c8 (by decide)
      · refine ⟨_, ⟨_, by decide, (ct_GD_isFact _ h)⟩, fun r12 h12 p12 => ?_⟩
        obtain ⟨rfl, rfl⟩ := p12
        refine And.intro (fun c15 => ?_) (fun c15 => ?_)
        · refine And.intro (fun c23 => ?_) (fun c23 => ?_)
          · exact ⟨by unfold hrV; rw [hin, hif, iR_1 c23]; rfl, out (by unfold hrQ; rw [hin, hif, iR_1 c23]; rfl), Fr.rf⟩
          · refine And.intro (fun c30 => ?_) (fun c30 => ?_)
            · refine And.intro (fun c45 => ?_) (fun c45 => ?_)
              · refine ⟨_, ⟨_, by decide, (ct_Heard_add (H' := hrH K H (nI j) (nI g) t b y) hr (by omega) (k := j) (f := g) (by omega) hg t b y (by unfold hrH; rw [show hrQ K H (nI j) (nI g) b = true by unfold hrQ; rw [hin, hif, iR_5 (L := 100) rfl c23 c30, decide_eq_false h8]; rfl, ej, eg]; rfl))⟩, fun r62 h62 p62 => ?_⟩
                obtain ⟨rfl, l1, l2⟩ := p62
                refine ⟨?_, l1, l2⟩
                unfold hrV
                rw [hin, hif, iR_5 (L := 100) rfl c23 c30, if_pos (by decide), if_pos rfl, if_neg h8, l1.1.1]
                unfold hrH
                rw [show hrQ K H (nI j) (nI g) b = true by unfold hrQ; rw [hin, hif, iR_5 (L := 100) rfl c23 c30, decide_eq_false h8]; rfl]
                rfl
              · rw [n1] at c45; exact absurd (nI_lt (b := 8) (by omega) (by decide)) c45
            · exact ⟨by unfold hrV; rw [hin, hif, iR_4 (L := 100) rfl c30]; rfl, out (by unfold hrQ; rw [hin, hif, iR_4 (L := 100) rfl c30]; rfl), Fr.rf⟩
        · rw [hif] at c15; exact absurd c15 (by decide)
theorem ct_GD_forget {H : HD} {h : Hp} (hr : CH6 H h) : Ct 1 md_GD_forget [.ref 0] h (fun r h' => r = some (.int (nI (dM H))) ∧ CH6 (hd0 H) h' ∧ Fr PH6 h h') := by
  refine Ct_of 6 rfl rfl rfl (fun X C => ?_)
  refine V_go C tk_GD_forget [] 29 ?_
  refine ⟨_, ⟨_, by decide, (ct_Heard_clear (H := H) h)⟩, fun r12 h12 p12 => ?_⟩
  obtain ⟨rfl, l1, l2⟩ := p12
  exact ⟨by rw [hr.1.1], l1, l2⟩
theorem allB_t {p : Nat → Bool} : ∀ {n : Nat}, allB p n = true ↔ ∀ i, i < n → p i = true
  | 0 => ⟨fun _ i hi => absurd hi (Nat.not_lt_zero i), fun _ => rfl⟩
  | n + 1 => by
    have e : allB p (n + 1) = (allB p n && p n) := rfl
    rw [e, Bool.and_eq_true, allB_t (n := n)]
    constructor
    · intro h i hi
      by_cases h9 : i = n
      · rw [h9]; exact h.2
      · exact h.1 i (by omega)
    · intro h
      exact ⟨fun i hi => h i (by omega), h n (by omega)⟩
theorem allB_rev (p : Nat → Bool) : allB (fun i => p (15 - i)) 16 = allB p 16 := by
  rw [Bool.eq_iff_iff, allB_t, allB_t]
  constructor
  · intro h i hi
    have := h (15 - i) (by omega)
    rwa [show 15 - (15 - i) = i by omega] at this
  · intro h i hi
    exact h (15 - i) (by omega)
def anU (b : Nat) : Nat → Int32
  | 0 => 15
  | n + 1 => if b.testBit n then anU b n &&& nI n else anU b n
def smU (b : Nat) : Nat → Int32
  | 0 => 0
  | n + 1 => if b.testBit n then smU b n ||| nI n else smU b n
theorem bt_anU (b j : Nat) : ∀ n, bt (anU b n) j = (bt 15 j && allB (fun i => !(b.testBit i) || bt (nI i) j) n)
  | 0 => (Bool.and_true _).symm
  | n + 1 => by
    show bt (if b.testBit n then anU b n &&& nI n else anU b n) j = (bt 15 j && (allB _ n && (!(b.testBit n) || bt (nI n) j)))
    cases b.testBit n with
    | false => rw [if_neg (by decide), bt_anU b j n]; simp
    | true => rw [if_pos rfl, b_and, bt_anU b j n]; simp [Bool.and_assoc]
theorem bt_anB (b j : Nat) : ∀ n, bt (anB b n) j = (bt 15 j && allB (fun i => !(b.testBit (15 - i)) || bt (nI (15 - i)) j) n)
  | 0 => (Bool.and_true _).symm
  | n + 1 => by
    show bt (if b.testBit (15 - n) then anB b n &&& nI (15 - n) else anB b n) j = (bt 15 j && (allB _ n && (!(b.testBit (15 - n)) || bt (nI (15 - n)) j)))
    cases b.testBit (15 - n) with
    | false => rw [if_neg (by decide), bt_anB b j n]; simp
    | true => rw [if_pos rfl, b_and, bt_anB b j n]; simp [Bool.and_assoc]
theorem an_eq (b : Nat) : anU b 16 = anB b 16 := b_ext (fun j _ => by rw [bt_anU, bt_anB, ← allB_rev (fun i => !(b.testBit i) || bt (nI i) j)])
theorem bt_smU (b j : Nat) : ∀ n, bt (smU b n) j = !(allB (fun i => !(b.testBit i && bt (nI i) j)) n)
  | 0 => b_0 j
  | n + 1 => by
    show bt (if b.testBit n then smU b n ||| nI n else smU b n) j = !((allB _ n && !(b.testBit n && bt (nI n) j)))
    cases b.testBit n with
    | false => rw [if_neg (by decide), bt_smU b j n]; simp
    | true => rw [if_pos rfl, b_or, bt_smU b j n]; simp
theorem bt_smB (b j : Nat) : ∀ n, bt (smB b n) j = !(allB (fun i => !(b.testBit (15 - i) && bt (nI (15 - i)) j)) n)
  | 0 => b_0 j
  | n + 1 => by
    show bt (if b.testBit (15 - n) then smB b n ||| nI (15 - n) else smB b n) j = !((allB _ n && !(b.testBit (15 - n) && bt (nI (15 - n)) j)))
    cases b.testBit (15 - n) with
    | false => rw [if_neg (by decide), bt_smB b j n]; simp
    | true => rw [if_pos rfl, b_or, bt_smB b j n]; simp
theorem sm_eq (b : Nat) : smU b 16 = smB b 16 := b_ext (fun j _ => by rw [bt_smU, bt_smB, ← allB_rev (fun i => !(b.testBit i && bt (nI i) j))])
theorem ls_tz (b t : Nat) (ht : b.testBit t = true) (hl : ∀ i, i < t → b.testBit i = false) : ∀ n, n ≤ 16 → 16 - n ≤ t → t < 16 → lsB b n = nI t
  | 0, _, h1, h2 => by omega
  | n + 1, h0, h1, h2 => by
    show (if b.testBit (15 - n) then nI (15 - n) else lsB b n) = nI t
    by_cases h9 : 15 - n = t
    · rw [h9, ht, if_pos rfl]
    · rw [hl (15 - n) (by omega), if_neg (by decide)]
      exact ls_tz b t ht hl n (by omega) (by omega) h2
theorem ls_0 : lsB 0 16 = -1 := by decide
theorem ct_GD_soInAll {b : Nat} (hb : b < 65536) (h : Hp) : Ct 0 md_GD_soInAll [.int (nI b)] h (ex (.int (anB b 16)) h) := by
  refine Ct_of 6 rfl rfl rfl (fun X C => ?_)
  rw [← an_eq] at C
  have loop : ∀ (n i : Nat) (m x : Int32), i + n = 16 → m = anU b i → x = nI i → V X 5 [some (.int (nI b)), some (.int m), some (.int x)] [] h := by
    intro n
    induction n with
    | zero =>
      intro i m x hi hm hx
      subst hx
      obtain rfl : i = 16 := by omega
      refine V_go C tk_GD_soInAll [5] 42 ?_
      refine And.intro (fun c8 => ?_) (fun c8 => ?_)
      · exact ⟨by rw [hm, an_eq], rfl⟩
      · exact absurd (by decide) c8
    | succ n ih =>
      intro i m x hi hm hx
      subst hx
      have e : anU b (i + 1) = if b.testBit i then anU b i &&& nI i else anU b i := rfl
      refine V_go C tk_GD_soInAll [5] 42 ?_
      refine And.intro (fun c8 => ?_) (fun c8 => ?_)
      · exact absurd c8 (nI_ge (b := 16) (by omega) (by decide))
      · refine And.intro (fun c17 => ?_) (fun c17 => ?_)
        · rw [bitAt1 hb (by omega)] at c17
          exact ih (i + 1) _ _ (by omega) (by rw [e, if_neg c17, hm]) (nI_1 i)
        · rw [bitAt1 hb (by omega)] at c17
          exact ih (i + 1) _ _ (by omega) (by rw [e, if_pos c17, hm]) (nI_1 i)
  refine V_go C tk_GD_soInAll [5] 42 ?_
  exact loop 16 0 _ _ (by omega) rfl rfl
theorem ct_GD_soInSome {b : Nat} (hb : b < 65536) (h : Hp) : Ct 0 md_GD_soInSome [.int (nI b)] h (ex (.int (smB b 16)) h) := by
  refine Ct_of 6 rfl rfl rfl (fun X C => ?_)
  have loop : ∀ (n i : Nat) (m x : Int32), i + n = 16 → m = smU b i → x = nI i → V X 4 [some (.int (nI b)), some (.int m), some (.int x)] [] h := by
    intro n
    induction n with
    | zero =>
      intro i m x hi hm hx
      subst hx
      obtain rfl : i = 16 := by omega
      refine V_go C tk_GD_soInSome [4] 42 ?_
      refine And.intro (fun c7 => ?_) (fun c7 => ?_)
      · exact ⟨by rw [hm, sm_eq], rfl⟩
      · exact absurd (by decide) c7
    | succ n ih =>
      intro i m x hi hm hx
      subst hx
      have e : smU b (i + 1) = if b.testBit i then smU b i ||| nI i else smU b i := rfl
      refine V_go C tk_GD_soInSome [4] 42 ?_
      refine And.intro (fun c7 => ?_) (fun c7 => ?_)
      · exact absurd c7 (nI_ge (b := 16) (by omega) (by decide))
      · refine And.intro (fun c16 => ?_) (fun c16 => ?_)
        · rw [bitAt1 hb (by omega)] at c16
          exact ih (i + 1) _ _ (by omega) (by rw [e, if_neg c16, hm]) (nI_1 i)
        · rw [bitAt1 hb (by omega)] at c16
          exact ih (i + 1) _ _ (by omega) (by rw [e, if_pos c16, hm]) (nI_1 i)
  refine V_go C tk_GD_soInSome [4] 42 ?_
  exact loop 16 0 _ _ (by omega) rfl rfl
theorem ct_GD_worlds {K : KF} {H : HD} {h : Hp} (hs : CSt K h) (hr : CH6 H h) (hlt : ∀ i, i < dM H → dL H i < kL K) (what : Int32) : Ct 5 md_GD_worlds [.ref 0, .int what] h (ex (.int (wldV K H what)) h) := by
  refine Ct_of 6 rfl rfl rfl (fun X C => ?_)
  have hb := wBits_lt K H (-1) 0
  have hv : ¬ kL K = 0 → inR what 4 = true → wldV K H what = wdV (wBits K H (-1) 0) what := by intro h1 h2; unfold wldV; rw [h2, if_pos rfl, if_neg h1]
  have e0 := nI_eq0 (a := wBits K H (-1) 0) (by omega)
  refine V_go C tk_GD_worlds [] 61 ?_
  refine And.intro (fun c1 => ?_) (fun c1 => ?_)
  · exact ⟨by unfold wldV; rw [iR_1 c1]; rfl, rfl⟩
  · refine And.intro (fun c6 => ?_) (fun c6 => ?_)
    · refine And.intro (fun c19 => ?_) (fun c19 => ?_)
      · refine ⟨_, ⟨_, by decide, (ct_Heard_worldsLeft hs hr hlt)⟩, fun r29 h29 p29 => ?_⟩
        obtain ⟨rfl, rfl⟩ := p29
        refine And.intro (fun c34 => ?_) (fun c34 => ?_)
        · refine And.intro (fun c43 => ?_) (fun c43 => ?_)
          · refine And.intro (fun c50 => ?_) (fun c50 => ?_)
            · refine And.intro (fun c60 => ?_) (fun c60 => ?_)
              · refine ⟨_, ⟨_, by decide, (ct_GD_soInSome hb h)⟩, fun r71 h71 p71 => ?_⟩
                obtain ⟨rfl, rfl⟩ := p71
                rw [cL0 hs] at c19
                rw [e0] at c43
                exact ⟨by rw [hv c19 (iR_5 (L := 4) rfl c1 c6)]; unfold wdV; rw [if_neg c34, if_neg (fun h9 => h9.elim c43 c50), if_neg c60], rfl⟩
              · refine ⟨_, ⟨_, by decide, (ct_GD_soInAll hb h)⟩, fun r64 h64 p64 => ?_⟩
                obtain ⟨rfl, rfl⟩ := p64
                rw [cL0 hs] at c19
                rw [e0] at c43
                exact ⟨by rw [hv c19 (iR_5 (L := 4) rfl c1 c6)]; unfold wdV; rw [if_neg c34, if_neg (fun h9 => h9.elim c43 c50), if_pos c60], rfl⟩
            · refine ⟨_, ⟨_, by decide, (ct_Integer_numberOfTrailingZeros rfl (fun h9 => c43 (e0.mpr h9)) hb h)⟩, fun r54 h54 p54 => ?_⟩
              obtain ⟨rfl, rfl⟩ := p54
              rw [cL0 hs] at c19
              rw [e0] at c43
              obtain ⟨t1, t2, t3⟩ := tz_spec 16 _ hb c43
              exact ⟨by rw [hv c19 (iR_5 (L := 4) rfl c1 c6)]; unfold wdV; rw [if_neg c34, if_pos (Or.inr c50), ls_tz _ _ t2 t3 16 (by omega) (by omega) t1], rfl⟩
          · rw [cL0 hs] at c19
            rw [e0] at c43
            exact ⟨by rw [hv c19 (iR_5 (L := 4) rfl c1 c6)]; unfold wdV; rw [if_neg c34, if_pos (Or.inl c43), c43, ls_0], rfl⟩
        · refine ⟨_, ⟨_, by decide, (ct_Integer_bitCount rfl hb h)⟩, fun r38 h38 p38 => ?_⟩
          obtain ⟨rfl, rfl⟩ := p38
          rw [cL0 hs] at c19
          exact ⟨by rw [hv c19 (iR_5 (L := 4) rfl c1 c6)]; unfold wdV; rw [if_pos c34], rfl⟩
      · rw [cL0 hs] at c19
        exact ⟨by unfold wldV; rw [iR_5 (L := 4) rfl c1 c6, if_pos rfl, if_pos c19], rfl⟩
    · exact ⟨by unfold wldV; rw [iR_4 (L := 4) rfl c6]; rfl, rfl⟩
theorem ct_GD_kinds {K : KF} {H : HD} {h : Hp} (hs : CSt K h) (hr : CH6 H h) (hlt : ∀ i, i < dM H → dL H i < kL K) (k : Int32) : Ct 4 md_GD_kinds [.ref 0, .int k] h (ex (.int (kndV K H k)) h) := by
  refine Ct_of 6 rfl rfl rfl (fun X C => ?_)
  cases hin : inR k (kL K) with
  | false =>
    refine V_go C tk_GD_kinds [14, 18] 50 ?_
    refine ⟨_, ⟨_, by decide, (ct_Strait_hasLight hs.1.1.1 hs.1.1.2 k)⟩, fun r5 h5 p5 => ?_⟩
    obtain ⟨rfl, rfl⟩ := p5
    refine And.intro (fun c8 => ?_) (fun c8 => ?_)
    · rw [hin] at c8; exact absurd rfl c8
    · exact ⟨by unfold kndV; rw [hin]; rfl, rfl⟩
  | true =>
    obtain ⟨j, hj, rfl⟩ := inR_t hin
    have hL5 := hs.1.1.2
    have ej := nIc (i := j) (by omega)
    have loop : ∀ (n i : Nat) (m x : Int32), i + n = 5 → m = nI (msk (fun kind => !(decide (wBits K H (nI j) (nI kind) = 0))) i) → x = nI i → V X 18 [some (.ref 0), some (.int (nI j)), some (.int m), some (.int x)] [] h := by
      intro n
      induction n with
      | zero =>
        intro i m x hi hm hx
        subst hx
        obtain rfl : i = 5 := by omega
        refine V_go C tk_GD_kinds [18] 50 ?_
        refine And.intro (fun c20 => ?_) (fun c20 => ?_)
        · exact ⟨by unfold kndV; rw [hin, if_pos rfl, ej, hm]; rfl, rfl⟩
        · exact absurd (by decide) c20
      | succ n ih =>
        intro i m x hi hm hx
        subst hx
        have hb := wBits_lt K H (nI j) (nI i)
        have e0 := nI_eq0 (a := wBits K H (nI j) (nI i)) (by omega)
        have em : msk (fun kind => !(decide (wBits K H (nI j) (nI kind) = 0))) (i + 1) = msk (fun kind => !(decide (wBits K H (nI j) (nI kind) = 0))) i ||| (bif !(decide (wBits K H (nI j) (nI i) = 0)) then 2 ^ i else 0) := rfl
        refine V_go C tk_GD_kinds [18] 50 ?_
        refine And.intro (fun c20 => ?_) (fun c20 => ?_)
        · exact absurd c20 (nI_ge (b := 5) (by omega) (by decide))
        · refine ⟨_, ⟨_, by decide, (ct_Heard_worldsLeftIf hs hr hlt (nI j) (nI i))⟩, fun r29 h29 p29 => ?_⟩
          obtain ⟨rfl, rfl⟩ := p29
          refine And.intro (fun c32 => ?_) (fun c32 => ?_)
          · rw [e0] at c32
            exact ih (i + 1) _ _ (by omega) (by rw [hm, em, decide_eq_true c32]; exact (fa_or _ 0).symm.trans (by rw [show nI 0 = 0 from rfl]; exact Int32.or_zero)|>.symm) (nI_1 i)
          · rw [e0] at c32
            exact ih (i + 1) _ _ (by omega) (by rw [hm, em, decide_eq_false c32, shl1 (by omega)]; exact fa_or _ _) (nI_1 i)
    refine V_go C tk_GD_kinds [18] 50 ?_
    refine ⟨_, ⟨_, by decide, (ct_Strait_hasLight hs.1.1.1 hs.1.1.2 _)⟩, fun r5 h5 p5 => ?_⟩
    obtain ⟨rfl, rfl⟩ := p5
    refine And.intro (fun c8 => ?_) (fun c8 => ?_)
    · exact loop 5 0 _ _ (by omega) rfl rfl
    · rw [hin] at c8; exact absurd c8 (by decide)
def PIm (a b : Nat) : Prop := PN4 a b ∨ PH7 a b ∨ (a = 0 ∧ b = 8)
theorem ct_GD_image {K : KF} {A : AS} {q3 q4 : Nat → Int32} {F : Nat} {H : HD} {h : Hp} (hs : CSt K h) (hn : CN3 K A q3 q4 F h) (hr : CH6 H h) : Ct 3 md_GD_image [.ref 0] h (fun r h' => r = some (.int (if kL K = 0 then -103 else aB A)) ∧ (kL K ≠ 0 → CN4 K A q3 q4 F h' ∧ CH7 H h' ∧ h'.1 0 8 = 1) ∧ (kL K = 0 → h' = h) ∧ Fr PIm h h') := by
  refine Ct_of 6 rfl rfl rfl (fun X C => ?_)
  refine V_go C tk_GD_image [] 43 ?_
  refine And.intro (fun c7 => ?_) (fun c7 => ?_)
  · refine ⟨_, ⟨_, by decide, (ct_Night_copyFrom_43 hs.1.1.2 hn)⟩, fun r21 h21 p21 => ?_⟩
    obtain ⟨rfl, l1, l2⟩ := p21
    refine ⟨_, ⟨_, by decide, (ct_Heard_copyFrom_76 (hr.fr l2 (fun i j h9 => by unfold PN4 at h9; omega)))⟩, fun r32 h32 p32 => ?_⟩
    obtain ⟨rfl, l3, l4⟩ := p32
    refine And.intro (by decide) ?_
    rw [cL0 hs] at c7
    have fin : Fr (fun a b => a = 0 ∧ b = 8) h32 (up2 h32.1 0 8 1, h32.2) := Fr.rf.up ⟨rfl, rfl⟩
    have g9 : h32.1 3 9 = aB A := by rw [l4.1 3 9 (by unfold PH7; omega), l2.1 3 9 (by unfold PN4; omega)]; exact hn.2.2.2.2
    obtain ⟨⟨n1, n2⟩, n3, n4, ⟨n5, n6⟩, n7⟩ := l1
    have g : ∀ i j, i = 4 ∨ (51 ≤ i ∧ i ≤ 56) → h32.1 i j = h21.1 i j := fun i j hi => l4.1 i j (by unfold PH7; omega)
    refine ⟨by rw [if_neg c7]; simp [up2]; exact g9, fun _ => ⟨⟨⟨?_, n2⟩, fun s hs => ?_, fun k hk => ?_, ⟨?_, n6⟩, ?_⟩, ⟨⟨?_, l3.1.2⟩, fun i hi => ?_⟩, by simp [up2]⟩, fun h9 => absurd h9 c7, ((l2.mono (Q := PIm) (fun _ _ h9 => Or.inl h9)).tr (l4.mono (fun _ _ h9 => Or.inr (Or.inl h9)))).tr (fin.mono (fun _ _ h9 => Or.inr (Or.inr h9)))⟩
    · simp [up2]; rw [g 4 7 (by omega)]; exact n1
    · have := n3 s hs
      simp [up2]; rw [g 51 s (by omega), g 52 s (by omega), g 53 s (by omega)]; exact this
    · have := n4 k hk
      simp [up2]; rw [g 54 k (by omega), g 55 k (by omega), g 56 k (by omega)]; exact this
    · simp [up2]; rw [g 4 8 (by omega)]; exact n5
    · simp [up2]; rw [g 4 9 (by omega)]; exact n7
    · simp [up2]; exact l3.1.1
    · have := l3.2 i hi
      simp [up2]; exact this
  · rw [cL0 hs] at c7
    exact ⟨by rw [if_pos c7], fun h9 => absurd c7 h9, fun _ => rfl, Fr.rf⟩
theorem ct_GD_restoreN {h : Hp} (hk : h.1 0 8 = 0) : Ct 3 md_GD_restore [.ref 0] h (ex (.int (-103)) h) := by
  refine Ct_of 6 rfl rfl rfl (fun X C => ?_)
  refine V_go C tk_GD_restore [10] 39 ?_
  refine And.intro (fun c4 => ?_) (fun c4 => ?_)
  · exact absurd hk c4
  · exact ⟨rfl, rfl⟩
def PRc (a b : Nat) : Prop := PN3 a b ∨ PH6 a b
theorem ct_GD_restore {K : KF} {A : AS} {q3 q4 : Nat → Int32} {F : Nat} {H : HD} {h : Hp} (hk : ¬ h.1 0 8 = 0) (hL : kL K ≤ 5) (hn : CN4 K A q3 q4 F h) (hr : CH7 H h) : Ct 3 md_GD_restore [.ref 0] h (fun r h' => r = some (.int (aB A)) ∧ CN3 K A q3 q4 F h' ∧ CH6 H h' ∧ Fr PRc h h') := by
  refine Ct_of 6 rfl rfl rfl (fun X C => ?_)
  refine V_go C tk_GD_restore [] 39 ?_
  refine And.intro (fun c4 => ?_) (fun c4 => ?_)
  · refine ⟨_, ⟨_, by decide, (ct_Night_copyFrom_34 hL hn)⟩, fun r18 h18 p18 => ?_⟩
    obtain ⟨rfl, l1, l2⟩ := p18
    refine ⟨_, ⟨_, by decide, (ct_Heard_copyFrom_67 (H := H) ⟨⟨by rw [l2.1 7 6 (by unfold PN3; omega)]; exact hr.1.1, hr.1.2⟩, fun i hi => by rw [l2.1 68 i (by unfold PN3; omega), l2.1 69 i (by unfold PN3; omega), l2.1 70 i (by unfold PN3; omega), l2.1 71 i (by unfold PN3; omega), l2.1 72 i (by unfold PN3; omega)]; exact hr.2 i hi⟩)⟩, fun r29 h29 p29 => ?_⟩
    obtain ⟨rfl, l3, l4⟩ := p29
    have c3 : CN3 K A q3 q4 F h29 := l1.fr l4 (fun i j h9 => by unfold PH6 at h9; omega)
    exact ⟨by rw [c3.2.2.2.2], c3, l3, (l2.mono (Q := PRc) (fun _ _ h9 => Or.inl h9)).tr (l4.mono (fun _ _ h9 => Or.inr h9))⟩
  · exact absurd c4 hk
theorem ct_GD_count {K : KF} {A : AS} {q3 q4 : Nat → Int32} {F : Nat} {H : HD} {p : Nat} {pg : Nat → Int32} {c : Nat} {h : Hp} (hs : CSt K h) (hn : CN3 K A q3 q4 F h) (hr : CH6 H h) (hp : CP p pg h) (hc : h.1 0 9 = nI c) (what : Int32) : Ct 2 md_GD_count [.ref 0, .int what] h (ex (.int (cntV K A F (dM H) p c what)) h) := by
  refine Ct_of 6 rfl rfl rfl (fun X C => ?_)
  have hL5 := hs.1.1.2
  have hl := lnB_lt K A hL5
  have ec : pc16 (lnB K A) = cnt (litA A) (kL K) := cnt_cut (by omega) (fun k _ => by unfold lnB; rw [msk_bit])
  refine V_go C tk_GD_count [] 74 ?_
  refine And.intro (fun c1 => ?_) (And.intro (fun c1 => ?_) (And.intro (fun c1 => ?_) (And.intro (fun c1 => ?_) (And.intro (fun c1 => ?_) (And.intro (fun c1 => ?_) (And.intro (fun c1 => ?_) (And.intro (fun c1 => ?_) (And.intro (fun c1 => ?_) (And.intro (fun c1 => ?_) (And.intro (fun c1 => ?_) (And.intro (fun c1 => ?_) (And.intro (fun c1 => ?_) trivial))))))))))))
  · refine ⟨?_, rfl⟩
    unfold cntV
    rw [if_neg (sw_out c1 (by decide) (by decide)), if_neg (sw_out c1 (by decide) (by decide)), if_neg (sw_out c1 (by decide) (by decide)), if_neg (sw_out c1 (by decide) (by decide)), if_neg (sw_out c1 (by decide) (by decide)), if_neg (sw_out c1 (by decide) (by decide)), if_neg (sw_out c1 (by decide) (by decide)), if_neg (sw_out c1 (by decide) (by decide)), if_neg (sw_out c1 (by decide) (by decide)), if_neg (sw_out c1 (by decide) (by decide)), if_neg (sw_out c1 (by decide) (by decide)), if_neg (sw_out c1 (by decide) (by decide))]
  · exact ⟨by rw [c1, hs.1.1.1]; rfl, rfl⟩
  · exact ⟨by rw [c1, hs.1.2.1.1]; rfl, rfl⟩
  · exact ⟨by rw [c1, hs.1.2.2.1.1]; rfl, rfl⟩
  · refine ⟨_, ⟨_, by decide, (ct_Night_litNow_3 hs hn)⟩, fun r92 h92 p92 => ?_⟩
    obtain ⟨rfl, rfl⟩ := p92
    refine ⟨_, ⟨_, by decide, (ct_Integer_bitCount rfl (by omega) h)⟩, fun r95 h95 p95 => ?_⟩
    rw [ec] at p95
    obtain ⟨rfl, rfl⟩ := p95
    exact ⟨by rw [c1]; rfl, rfl⟩
  · exact ⟨by rw [c1, hn.2.2.2.1.1]; rfl, rfl⟩
  · exact ⟨by rw [c1, hn.1.1]; rfl, rfl⟩
  · refine ⟨_, ⟨_, by decide, (ct_Night_shipsThatAre hn (w := 0) rfl (by decide))⟩, fun r120 h120 p120 => ?_⟩
    obtain ⟨rfl, rfl⟩ := p120
    exact ⟨by rw [c1]; rfl, rfl⟩
  · refine ⟨_, ⟨_, by decide, (ct_Night_shipsThatAre hn (w := 2) rfl (by decide))⟩, fun r129 h129 p129 => ?_⟩
    obtain ⟨rfl, rfl⟩ := p129
    exact ⟨by rw [c1]; rfl, rfl⟩
  · exact ⟨by rw [c1, hn.2.2.2.2]; rfl, rfl⟩
  · exact ⟨by rw [c1, hr.1.1]; rfl, rfl⟩
  · exact ⟨by rw [c1, hp.1.1]; rfl, rfl⟩
  · exact ⟨by rw [c1, hc]; rfl, rfl⟩
