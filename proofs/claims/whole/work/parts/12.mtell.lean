theorem shl1 {k : Nat} (hk : k < 31) : (1 : Int32) <<< (nI k &&& 31) = nI (2 ^ k) := by
  have h1 : 2 ^ k < 2 ^ 31 := Nat.pow_lt_pow_right (by decide) hk
  have := pk_shlN (n := 1) (nI k &&& 31) k (shN k (by omega)) (by omega)
  rw [Nat.one_mul] at this
  exact this
theorem pow5 {k : Nat} (hk : k < 5) : 2 ^ k < 32 := Nat.pow_lt_pow_right (n := 5) (by decide) hk
theorem MX.fr {P : Nat → Nat → Prop} {K : KF} {A : AS} {h h' : Hp} (a : MX K A h) (f : Fr P h h') (hp : ∀ i j, P i j → i ≠ 78 ∧ i ≠ 79 ∧ i ≠ 80 ∧ ¬ (i = 73 ∧ j = 19)) : MX K A h' := by
  obtain ⟨a1, a2, a3⟩ := a
  have e : ∀ i j, (i = 78 ∨ i = 79 ∨ i = 80 ∨ (i = 73 ∧ j = 19)) → h'.1 i j = h.1 i j := fun i j hq => f.1 i j (fun hn => by
    have := hp i j hn
    omega)
  refine ⟨fun k hk => ?_, fun s hs => ?_, by rw [e _ _ (by omega)]; exact a3⟩
  · rw [e _ _ (by omega)]
    exact a1 k hk
  · rw [e _ _ (by omega), e _ _ (by omega)]
    exact a2 s hs
theorem lostBy_le (K : KF) (A : AS) (set : Nat) (h1 : kD K ≤ 9) (h2 : kN K ≤ 3) : lostBy K A set ≤ 27 := by
  have := lostIn_le K (kD K) (goDark K A set)
  have h3 : kD K * kN K ≤ 9 * 3 := Nat.mul_le_mul h1 h2
  unfold lostBy
  omega
theorem ct_M_lostByE {K : KF} {A : AS} {h : Hp} (hs : MS K h) (hx : MX K A h) {set : Nat} {x : Int32} (he : x = nI set) (hset : set < 65536) : Ct 3 md_M_lostBy [.ref 73, .int x] h (fun r h' => r = some (.int (nI (lostBy K A set))) ∧ Fr P8 h h') := by
  subst he
  exact ct_M_lostBy hs hx hset
theorem MS.f8 {K : KF} {h h' : Hp} (a : MS K h) (f : Fr P8 h h') : MS K h' := a.fr f (fun i j h9 => by unfold P8 at h9; omega)
theorem MX.f8 {K : KF} {A : AS} {h h' : Hp} (a : MX K A h) (f : Fr P8 h h') : MX K A h' := a.fr f (fun i j h9 => by unfold P8 at h9; omega)
theorem ct_M_mayGo {K : KF} {A : AS} {h : Hp} (hs : MS K h) (hx : MX K A h) {k : Nat} (hk : k < kL K) : Ct 4 md_M_mayGo [.ref 73, .int (nI k)] h (fun r h' => r = some (.int (tI (mayGo K A k))) ∧ Fr P8 h h') := by
  refine Ct_of 7 rfl rfl rfl (fun X C => ?_)
  obtain ⟨⟨hL, hL5⟩, -, ⟨hD, hD9⟩, -, ⟨hN, hN3⟩, hc⟩ := id hs
  have e0 : decide (h.1 78 k = 0) = litA A k := by
    unfold litA
    apply decide_eq_decide.mpr
    rw [(hx.1 k hk).1]
    exact nI_eq0 (by have := (hx.1 k hk).2; omega)
  have l1 := lostBy_le K A (2 ^ k) hD9 hN3
  have l0 := lostBy_le K A 0 hD9 hN3
  have p5 := pow5 (k := k) (by omega)
  refine V_go C tk_M_mayGo [] 37 ?_
  refine ⟨_, ⟨_, by decide, (ct_M_isLit (k := k) (by omega) h)⟩, fun r2 h2 p2 => ?_⟩
  obtain ⟨rfl, rfl⟩ := p2
  refine And.intro (fun c5 => ?_) (fun c5 => ?_)
  · rw [tI_0, e0] at c5
    exact ⟨by decide, by unfold mayGo; rw [c5]; rfl, Fr.rf⟩
  · refine ⟨_, ⟨_, by decide, (ct_M_lostByE hs hx (shl1 (k := k) (by omega)) (by omega))⟩, fun r12 h12 p12 => ?_⟩
    obtain ⟨rfl, f1⟩ := p12
    refine ⟨_, ⟨_, by decide, (ct_M_lostByE (hs.f8 f1) (hx.f8 f1) (set := 0) rfl (by decide))⟩, fun r17 h17 p17 => ?_⟩
    obtain ⟨rfl, f2⟩ := p17
    refine And.intro (fun c20 => ?_) (fun c20 => ?_)
    · rw [tI_n, e0] at c5
      exact ⟨by decide, by unfold mayGo; rw [c5, decide_eq_false (fun h => absurd c20 (nI_nlt h (by omega)))]; rfl, f1.tr f2⟩
    · rw [tI_n, e0] at c5
      exact ⟨by decide, by unfold mayGo; rw [c5, decide_eq_true (Nat.le_of_not_lt (fun h => c20 (nI_lt h (by omega))))]; rfl, f1.tr f2⟩
/-- WHEN -/
def whenF (K : KF) (k : Nat) : Nat → Nat → AS → Int32
  | 0, _, _ => -1
  | n + 1, b, A => if mayGo K A k then nI b else whenF K k n (b + 1) (stepA K A)
theorem ct_M_whenOf {K : KF} {A : AS} {h : Hp} (hs : MS K h) (hd : MD' K A h) {k : Nat} (hk : k < kL K) : Ct 5 md_M_whenOf [.ref 73, .int (nI k)] h (fun r h' => r = some (.int (whenF K k 31 0 A)) ∧ Fr P9 h h') := by
  refine Ct_of 7 rfl rfl rfl (fun X C => ?_)
  have loop : ∀ (n i : Nat) (b : Int32) (w : Option Value) (hh : Hp) (B : AS), i + n = 31 → b = nI i → MS K hh → MX K B hh → Fr P9 h hh → whenF K k n i B = whenF K k 31 0 A → V X 6 [some (.ref 73), some (.int (nI k)), some (.int b), w] [] hh := by
    intro n
    induction n with
    | zero =>
      intro i b w hh B hi hb hm hx hf hw
      subst hb
      obtain rfl : i = 31 := by omega
      refine V_go C tk_M_whenOf [6] 40 ?_
      refine And.intro (fun c9 => ?_) (fun c9 => ?_)
      · exact ⟨by rw [← hw]; rfl, hf⟩
      · exact absurd (by decide) c9
    | succ n ih =>
      intro i b w hh B hi hb hm hx hf hw
      subst hb
      have f7 : ∀ {h1 h2 : Hp}, Fr P7 h1 h2 → MS K h1 → MS K h2 := fun f a => a.fr f (fun i j h9 => by unfold P7 at h9; omega)
      refine V_go C tk_M_whenOf [6] 40 ?_
      refine And.intro (fun c9 => ?_) (fun c9 => ?_)
      · exact absurd c9 (nI_nlt (a := 30) (b := i) (by omega) (by decide))
      · refine ⟨_, ⟨_, by decide, (ct_M_mayGo hm hx hk)⟩, fun r14 h14 p14 => ?_⟩
        obtain ⟨rfl, f1⟩ := p14
        refine And.intro (fun c17 => ?_) (fun c17 => ?_)
        · refine ⟨_, ⟨_, by decide, (ct_M_goesBy (hm.f8 f1) (hx.f8 f1))⟩, fun r23 h23 p23 => ?_⟩
          obtain ⟨rfl, x2, f2⟩ := p23
          rw [tI_0] at c17
          refine ih (i + 1) _ _ _ (stepA K B) (by omega) (nI_1 i) (f7 f2 (hm.f8 f1)) x2 ((hf.tr (f1.mono (fun _ _ h9 => Or.inr h9))).tr (f2.mono (fun _ _ h9 => Or.inl h9))) ?_
          rw [← hw]
          show _ = (if mayGo K B k then nI i else whenF K k n (i + 1) (stepA K B))
          rw [c17]
          rfl
        · rw [tI_n] at c17
          refine ⟨?_, hf.tr (f1.mono (fun _ _ h9 => Or.inr h9))⟩
          rw [← hw]
          show _ = some (Value.int (if mayGo K B k then nI i else whenF K k n (i + 1) (stepA K B)))
          rw [c17]
          rfl
  refine V_go C tk_M_whenOf [6] 40 ?_
  refine ⟨_, ⟨_, by decide, (ct_M_asItIs hs hd)⟩, fun r1 h1 p1 => ?_⟩
  obtain ⟨rfl, x1, f1⟩ := p1
  exact loop 31 0 _ _ _ A rfl rfl (hs.fr f1 (fun i j h9 => by unfold P7 at h9; omega)) x1 (f1.mono (fun _ _ h9 => Or.inl h9)) rfl
/-- in 0 .. L-1 -/
def inR (k : Int32) (L : Nat) : Bool := decide (0 ≤ k.toInt) && decide (k.toInt < L)
theorem inR_t {k : Int32} {L : Nat} (h : inR k L = true) : ∃ j : Nat, j < L ∧ k = nI j := by
  unfold inR at h
  simp only [Bool.and_eq_true, decide_eq_true_eq] at h
  refine ⟨k.toInt.toNat, by omega, ?_⟩
  rw [← ofInt_nat, Int.toNat_of_nonneg h.1]
  exact (Int32.ofInt_toInt k).symm
theorem inR_nI {j L : Nat} (hj : j < L) (hL : L < 1000000) : inR (nI j) L = true := by
  unfold inR
  rw [nI_toI (by omega)]
  simp
  exact hj
theorem inR_m {k : Int32} {L : Nat} (hL : L < 1000000) : (decide (0 ≤ k) && decide (k ≤ nI L - 1)) = inR k L := by
  unfold inR
  have e : (nI L - 1).toInt = (L : Int) - 1 := pk_sub_toInt (b := 1) (by omega) (by decide)
  simp only [Int32.le_iff_toInt_le, e]
  rw [show (0 : Int32).toInt = 0 from rfl]
  congr 1
  apply decide_eq_decide.mpr
  omega
theorem inR_c {k : Int32} {L : Nat} {M : Int32} (hM : M.toInt = (L : Int) - 1) : (decide (0 ≤ k) && decide (k ≤ M)) = inR k L := by
  unfold inR
  simp only [Int32.le_iff_toInt_le, hM]
  rw [show (0 : Int32).toInt = 0 from rfl]
  congr 1
  apply decide_eq_decide.mpr
  omega
/-- the reference's night: the strait, what goes on, how often asked, said no, the facts -/
def RN (K : KF) (A : AS) (q3 q4 : Nat → Int32) (F : Nat) (h : Hp) : Prop := MS K h ∧ MD' K A h ∧ (∀ k, k < kL K → h.1 76 (5 * k + 3) = q3 k ∧ h.1 76 (5 * k + 4) = q4 k) ∧ h.1 73 10 = nI F ∧ F < 16
def tellV (K : KF) (A : AS) (q3 q4 : Nat → Int32) (k : Nat) (what : Int32) : Int32 := if what = 0 then nI (kK K k) else if what = 1 then nI (kP K k) else if what = 2 then nI (aD A k) else if what = 3 then tI (mayGo K A k) else if what = 4 then whenF K k 31 0 A else if what = 5 then q3 k else if what = 6 then q4 k else -102
theorem sw_out {x : Int32} {c : Int32} {lo hi : Int} (h : x.toInt < lo ∨ hi < x.toInt) (h1 : lo ≤ c.toInt) (h2 : c.toInt ≤ hi) : ¬ x = c := by
  rintro rfl
  omega
theorem ct_M_tell {K : KF} {A : AS} {q3 q4 : Nat → Int32} {F : Nat} {h : Hp} (hr : RN K A q3 q4 F h) {k : Nat} (hk : k < kL K) (what : Int32) : Ct 6 md_M_tell [.ref 73, .int (nI k), .int what] h (fun r h' => r = some (.int (tellV K A q3 q4 k what)) ∧ Fr P9 h h') := by
  refine Ct_of 7 rfl rfl rfl (fun X C => ?_)
  obtain ⟨hs, hd, hq, -⟩ := id hr
  obtain ⟨⟨hL, hL5⟩, -, -, hk4, -, -⟩ := id hs
  obtain ⟨b1, b2, b3, b4⟩ := hk4 k hk
  have i0 : ((5 : Int32) * nI k + 0).toNatClampNeg = 5 * k + 0 := ixc 5 0 k (by omega)
  have i1 : ((5 : Int32) * nI k + 1).toNatClampNeg = 5 * k + 1 := ixc 5 1 k (by omega)
  have i2 : ((5 : Int32) * nI k + 2).toNatClampNeg = 5 * k + 2 := ixc 5 2 k (by omega)
  have i5 : (5 : Int32) * nI k + 5 - 2 = nI (5 * k + 3) := by rw [show (5 : Int32) * nI k + 5 = nI (5 * k + 5) from ixm 5 5 k]; exact pk_sub (b := 2) (by omega)
  have i6 : (5 : Int32) * nI k + 6 - 2 = nI (5 * k + 4) := by rw [show (5 : Int32) * nI k + 6 = nI (5 * k + 6) from ixm 5 6 k]; exact pk_sub (b := 2) (by omega)
  refine V_go C tk_M_tell [] 58 ?_
  refine And.intro (fun c1 => ?_) (And.intro (fun c1 => ?_) (And.intro (fun c1 => ?_) (And.intro (fun c1 => ?_) (And.intro (fun c1 => ?_) (And.intro (fun c1 => ?_) (And.intro (fun c1 => ?_) (And.intro (fun c1 => ?_) trivial)))))))
  · refine ⟨?_, Fr.rf⟩
    unfold tellV
    rw [if_neg (sw_out c1 (by decide) (by decide)), if_neg (sw_out c1 (by decide) (by decide)), if_neg (sw_out c1 (by decide) (by decide)), if_neg (sw_out c1 (by decide) (by decide)), if_neg (sw_out c1 (by decide) (by decide)), if_neg (sw_out c1 (by decide) (by decide)), if_neg (sw_out c1 (by decide) (by decide))]
  · refine And.intro (by subst c1; first | exact ixin 5 0 k 25 (by omega) (by decide) | exact ixin 5 1 k 25 (by omega) (by decide) | exact ixin 5 2 k 25 (by omega) (by decide)) ?_
    subst c1
    exact ⟨by rw [i0, b1]; rfl, Fr.rf⟩
  · refine And.intro (by subst c1; first | exact ixin 5 0 k 25 (by omega) (by decide) | exact ixin 5 1 k 25 (by omega) (by decide) | exact ixin 5 2 k 25 (by omega) (by decide)) ?_
    subst c1
    exact ⟨by rw [i1, b3]; rfl, Fr.rf⟩
  · refine And.intro (by subst c1; first | exact ixin 5 0 k 25 (by omega) (by decide) | exact ixin 5 1 k 25 (by omega) (by decide) | exact ixin 5 2 k 25 (by omega) (by decide)) ?_
    subst c1
    exact ⟨by rw [i2, (hd.1 k hk).1]; rfl, Fr.rf⟩
  · refine ⟨_, ⟨_, by decide, (ct_M_asItIs hs hd)⟩, fun r56 h56 p56 => ?_⟩
    obtain ⟨rfl, x1, f1⟩ := p56
    refine ⟨_, ⟨_, by decide, (ct_M_mayGo (hs.fr f1 (fun i j h9 => by unfold P7 at h9; omega)) x1 hk)⟩, fun r61 h61 p61 => ?_⟩
    obtain ⟨rfl, f2⟩ := p61
    refine And.intro (fun c64 => ?_) (fun c64 => ?_)
    · subst c1
      rw [tI_0] at c64
      exact ⟨by show _ = some (Value.int (tI (mayGo K A k))); rw [c64]; rfl, (f1.mono (fun _ _ h9 => Or.inl h9)).tr (f2.mono (fun _ _ h9 => Or.inr h9))⟩
    · subst c1
      rw [tI_n] at c64
      exact ⟨by show _ = some (Value.int (tI (mayGo K A k))); rw [c64]; rfl, (f1.mono (fun _ _ h9 => Or.inl h9)).tr (f2.mono (fun _ _ h9 => Or.inr h9))⟩
  · refine ⟨_, ⟨_, by decide, (ct_M_whenOf hs hd hk)⟩, fun r75 h75 p75 => ?_⟩
    obtain ⟨rfl, f3⟩ := p75
    subst c1
    exact ⟨rfl, f3⟩
  · refine And.intro (by subst c1; first | (rw [i5]; exact inn (by omega) (by decide)) | (rw [i6]; exact inn (by omega) (by decide))) ?_
    subst c1
    exact ⟨by rw [i5, nIc (by omega), (hq k hk).1]; rfl, Fr.rf⟩
  · refine And.intro (by subst c1; first | (rw [i5]; exact inn (by omega) (by decide)) | (rw [i6]; exact inn (by omega) (by decide))) ?_
    subst c1
    exact ⟨by rw [i6, nIc (by omega), (hq k hk).2]; rfl, Fr.rf⟩
theorem ct_M_isLightR {K : KF} {h : Hp} (hs : MS K h) (k : Int32) : Ct 1 md_M_isLight [.ref 73, .int k] h (ex (.int (tI (inR k (kL K)))) h) := by
  have h1 := ct_M_isLight k h
  rw [hs.1.1, inR_m (by have := hs.1.2; omega)] at h1
  exact h1
theorem ct_M_isFactR (f : Int32) (h : Hp) : Ct 1 md_M_isFact [.int f] h (ex (.int (tI (inR f 4))) h) := by
  have h1 := ct_M_isFact f h
  rw [inR_c (L := 4) rfl] at h1
  exact h1
theorem ct_M_about {K : KF} {A : AS} {q3 q4 : Nat → Int32} {F : Nat} {h : Hp} (hr : RN K A q3 q4 F h) (k what : Int32) : Ct 7 md_M_about [.ref 73, .int k, .int what] h (fun r h' => r = some (.int (if inR k (kL K) then tellV K A q3 q4 k.toNatClampNeg what else -101)) ∧ Fr P9 h h') := by
  refine Ct_of 7 rfl rfl rfl (fun X C => ?_)
  cases hin : inR k (kL K) with
  | false =>
    refine V_go C tk_M_about [] 31 ?_
    refine ⟨_, ⟨_, by decide, (ct_M_isLightR hr.1 k)⟩, fun r2 h2 p2 => ?_⟩
    obtain ⟨rfl, rfl⟩ := p2
    refine And.intro (fun c5 => ?_) (fun c5 => ?_)
    · exact ⟨by rw [hin]; rfl, Fr.rf⟩
    · rw [hin] at c5; exact absurd rfl c5
  | true =>
    obtain ⟨j, hj, rfl⟩ := inR_t hin
    have e := nIc (i := j) (by have := hr.1.1.2; omega)
    refine V_go C tk_M_about [] 31 ?_
    refine ⟨_, ⟨_, by decide, (ct_M_isLightR hr.1 (nI j))⟩, fun r2 h2 p2 => ?_⟩
    obtain ⟨rfl, rfl⟩ := p2
    refine And.intro (fun c5 => ?_) (fun c5 => ?_)
    · rw [hin] at c5; exact absurd c5 (by decide)
    · refine ⟨_, ⟨_, by decide, (ct_M_tell hr hj what)⟩, fun r11 h11 p11 => ?_⟩
      obtain ⟨rfl, f1⟩ := p11
      exact ⟨by rw [hin, e]; rfl, f1⟩
