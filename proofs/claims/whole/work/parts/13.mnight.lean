/-- the reference's cells of a night, its rows for trying among them -/
def PN (a b : Nat) : Prop := P9 a b ∨ a = 76 ∨ a = 77 ∨ (a = 73 ∧ (b = 10 ∨ b = 11 ∨ b = 14 ∨ b = 25))
theorem MS.f7 {K : KF} {h h' : Hp} (a : MS K h) (f : Fr P7 h h') : MS K h' := a.fr f (fun i j h9 => by unfold P7 at h9; omega)
theorem MS.f9 {K : KF} {h h' : Hp} (a : MS K h) (f : Fr P9 h h') : MS K h' := a.fr f (fun i j h9 => by unfold P9 P7 P8 at h9; omega)
theorem Fr.n9 {h h' : Hp} (f : Fr P9 h h') : Fr PN h h' := f.mono (fun _ _ h9 => Or.inl h9)
theorem Fr.n7 {h h' : Hp} (f : Fr P7 h h') : Fr PN h h' := f.mono (fun _ _ h9 => Or.inl (Or.inl h9))
theorem Fr.n8 {h h' : Hp} (f : Fr P8 h h') : Fr PN h h' := f.mono (fun _ _ h9 => Or.inl (Or.inr h9))
/-- what shipOf tells -/
def shipV (K : KF) (A : AS) (s : Nat) (what : Int32) : Int32 := if what = 0 then nI (aP A s) else if what = 1 then Int32.ofInt (kC K s) + 1 else if what = 2 then nI (aQ A s) else if what = 3 then nI (shine K A (aP A s)) else -102
theorem ct_M_shinesOnE {K : KF} {A : AS} {h : Hp} (hs : MS K h) (hx : ∀ k, k < kL K → h.1 78 k = nI (aD A k) ∧ aD A k ≤ 9) {x : Nat} {y : Int32} (hy : y = nI x) (hx10 : x < 10) : Ct 1 md_M_shinesOn [.ref 73, .int y] h (ex (.int (nI (shine K A x))) h) := by
  subst hy
  exact ct_M_shinesOn hs hx hx10
theorem ct_M_tellShip {K : KF} {A : AS} {q3 q4 : Nat → Int32} {F : Nat} {h : Hp} (hr : RN K A q3 q4 F h) {s : Nat} (hk : s < kN K) (what : Int32) : Ct 2 md_M_tellShip [.ref 73, .int (nI s), .int what] h (fun r h' => r = some (.int (shipV K A s what)) ∧ Fr P9 h h') := by
  refine Ct_of 7 rfl rfl rfl (fun X C => ?_)
  obtain ⟨hs, hd, hq, -⟩ := id hr
  obtain ⟨-, -, -, -, ⟨hN, hN3⟩, hc⟩ := id hs
  obtain ⟨b1, b2, b3, b4⟩ := hd.2.1 s hk
  have i0 : ((3 : Int32) * nI s).toNatClampNeg = 3 * s := ix0c 3 s (by omega)
  have i1 : ((3 : Int32) * nI s + 1).toNatClampNeg = 3 * s + 1 := ixc 3 1 s (by omega)
  have i2 : ((3 : Int32) * nI s + 2).toNatClampNeg = 3 * s + 2 := ixc 3 2 s (by omega)
  refine V_go C tk_M_tellShip [] 62 ?_
  refine ⟨_, ⟨_, by decide, (ct_M_asItIs hs hd)⟩, fun r1 h1 p1 => ?_⟩
  obtain ⟨rfl, x1, f1⟩ := p1
  have e : ∀ j, h1.1 77 j = h.1 77 j := fun j => f1.1 77 j (by unfold P7; omega)
  refine And.intro (fun c5 => ?_) (And.intro (fun c5 => ?_) (And.intro (fun c5 => ?_) (And.intro (fun c5 => ?_) (And.intro (fun c5 => ?_) trivial))))
  · refine ⟨?_, f1.mono (fun _ _ h9 => Or.inl h9)⟩
    unfold shipV
    rw [if_neg (sw_out c5 (by decide) (by decide)), if_neg (sw_out c5 (by decide) (by decide)), if_neg (sw_out c5 (by decide) (by decide)), if_neg (sw_out c5 (by decide) (by decide))]
  · refine And.intro ((ix0in 3 s 9 (by omega) (by decide))) ?_
    subst c5
    exact ⟨by rw [i0, e, show h.1 77 (3 * s) = nI (aP A s) from b1]; rfl, f1.mono (fun _ _ h9 => Or.inl h9)⟩
  · refine And.intro ((ixin 3 1 s 9 (by omega) (by decide))) ?_
    subst c5
    exact ⟨by rw [i1, e, (hc s hk).1]; rfl, f1.mono (fun _ _ h9 => Or.inl h9)⟩
  · refine And.intro ((ixin 3 2 s 9 (by omega) (by decide))) ?_
    subst c5
    exact ⟨by rw [i2, e, b3]; rfl, f1.mono (fun _ _ h9 => Or.inl h9)⟩
  · refine And.intro ((ix0in 3 s 9 (by omega) (by decide))) ?_
    refine ⟨_, ⟨_, by decide, (ct_M_shinesOnE (x := aP A s) (hs.f7 f1) x1.1 (by rw [i0, e]; exact b1) b2)⟩, fun r78 h78 p78 => ?_⟩
    obtain ⟨rfl, rfl⟩ := p78
    subst c5
    exact ⟨rfl, f1.mono (fun _ _ h9 => Or.inl h9)⟩
theorem ct_M_inR {K : KF} {h : Hp} (hs : MS K h) (k : Int32) : Ct 0 md_M_in [.long k.toInt64, .long 0, .long (h.1 73 14 - 1).toInt64] h (ex (.int (tI (inR k (kN K)))) h) := by
  have h1 := ct_M_in32 k 0 (h.1 73 14 - 1) h
  have e : (decide (0 ≤ k) && decide (k ≤ h.1 73 14 - 1)) = inR k (kN K) := by
    rw [hs.2.2.2.2.1.1]
    exact inR_m (by have := hs.2.2.2.2.1.2; omega)
  rw [e] at h1
  exact h1
theorem ct_M_shipOf {K : KF} {A : AS} {q3 q4 : Nat → Int32} {F : Nat} {h : Hp} (hr : RN K A q3 q4 F h) (s what : Int32) : Ct 3 md_M_shipOf [.ref 73, .int s, .int what] h (fun r h' => r = some (.int (if inR s (kN K) then shipV K A s.toNatClampNeg what else -101)) ∧ Fr P9 h h') := by
  refine Ct_of 7 rfl rfl rfl (fun X C => ?_)
  cases hin : inR s (kN K) with
  | false =>
    refine V_go C tk_M_shipOf [] 37 ?_
    refine ⟨_, ⟨_, by decide, (ct_M_inR hr.1 s)⟩, fun r10 h10 p10 => ?_⟩
    obtain ⟨rfl, rfl⟩ := p10
    refine And.intro (fun c13 => ?_) (fun c13 => ?_)
    · exact ⟨by rw [hin]; rfl, Fr.rf⟩
    · rw [hin] at c13; exact absurd rfl c13
  | true =>
    obtain ⟨j, hj, rfl⟩ := inR_t hin
    have e := nIc (i := j) (by have := hr.1.2.2.2.2.1.2; omega)
    refine V_go C tk_M_shipOf [] 37 ?_
    refine ⟨_, ⟨_, by decide, (ct_M_inR hr.1 (nI j))⟩, fun r10 h10 p10 => ?_⟩
    obtain ⟨rfl, rfl⟩ := p10
    refine And.intro (fun c13 => ?_) (fun c13 => ?_)
    · rw [hin] at c13; exact absurd c13 (by decide)
    · refine ⟨_, ⟨_, by decide, (ct_M_tellShip hr hj what)⟩, fun r19 h19 p19 => ?_⟩
      obtain ⟨rfl, f1⟩ := p19
      exact ⟨by rw [hin, e]; rfl, f1⟩
/-- whether a light of a kind is of another -/
def asB (of kind : Int32) : Bool := decide (kind = 0) || decide (kind = of) || (decide (kind = 3) && decide (of = 4))
def asV (K : KF) (k kind : Int32) : Int32 := if inR k (kL K) then (if inR kind 5 then (if asB (nI (kK K k.toNatClampNeg)) kind then k else -1) else -102) else -101
theorem ct_M_as {K : KF} {h : Hp} (hs : MS K h) (k kind : Int32) : Ct 2 md_M_as [.ref 73, .int k, .int kind] h (ex (.int (asV K k kind)) h) := by
  refine Ct_of 7 rfl rfl rfl (fun X C => ?_)
  cases hin : inR k (kL K) with
  | false =>
    refine V_go C tk_M_as [] 62 ?_
    refine ⟨_, ⟨_, by decide, (ct_M_isLightR hs k)⟩, fun r2 h2 p2 => ?_⟩
    obtain ⟨rfl, rfl⟩ := p2
    refine And.intro (fun c5 => ?_) (fun c5 => ?_)
    · rw [hin] at c5; exact absurd rfl c5
    · exact ⟨by unfold asV; rw [hin]; rfl, rfl⟩
  | true =>
    obtain ⟨j, hj, rfl⟩ := inR_t hin
    have hj5 : j < 5 := by have := hs.1.2; omega
    have e := nIc (i := j) (by omega)
    have i0 : ((5 : Int32) * nI j).toNatClampNeg = 5 * j := ix0c 5 j (by omega)
    have b1 : h.1 76 (5 * j) = nI (kK K j) := (hs.2.2.2.1 j hj).1
    have hv : asV K (nI j) kind = if inR kind 5 then (if asB (nI (kK K j)) kind then nI j else -1) else -102 := by unfold asV; rw [hin, e]; rfl
    have hk5 : (decide (0 ≤ kind) && decide (kind ≤ 4)) = inR kind 5 := inR_c (L := 5) rfl
    refine V_go C tk_M_as [] 62 ?_
    refine ⟨_, ⟨_, by decide, (ct_M_isLightR hs (nI j))⟩, fun r2 h2 p2 => ?_⟩
    obtain ⟨rfl, rfl⟩ := p2
    refine And.intro (fun c5 => ?_) (fun c5 => ?_)
    · refine ⟨_, ⟨_, by decide, (ct_M_in32 kind 0 4 h)⟩, fun r17 h17 p17 => ?_⟩
      obtain ⟨rfl, rfl⟩ := p17
      refine And.intro (fun c20 => ?_) (fun c20 => ?_)
      · refine And.intro (ix0in 5 j 25 (by omega) (by decide)) ?_
        refine And.intro (fun c36 => ?_) (fun c36 => ?_)
        · refine And.intro (fun c63 => ?_) (fun c63 => ?_)
          · first | exact absurd c63 (by decide) | (rw [tI_n, hk5] at c20; refine ⟨?_, rfl⟩; rw [hv, c20]; rw [i0, b1] at *; simp_all [asB]; done) | (rw [tI_n, hk5] at c20; refine ⟨?_, rfl⟩; rw [hv, c20]; simp_all [asB]; done) | (rw [tI_0, hk5] at c20; exact ⟨by rw [hv, c20]; rfl, rfl⟩)
          · first | exact absurd c63 (by decide) | (rw [tI_n, hk5] at c20; refine ⟨?_, rfl⟩; rw [hv, c20]; rw [i0, b1] at *; simp_all [asB]; done) | (rw [tI_n, hk5] at c20; refine ⟨?_, rfl⟩; rw [hv, c20]; simp_all [asB]; done) | (rw [tI_0, hk5] at c20; exact ⟨by rw [hv, c20]; rfl, rfl⟩)
        · refine And.intro (fun c41 => ?_) (fun c41 => ?_)
          · refine And.intro (fun c63 => ?_) (fun c63 => ?_)
            · first | exact absurd c63 (by decide) | (rw [tI_n, hk5] at c20; refine ⟨?_, rfl⟩; rw [hv, c20]; rw [i0, b1] at *; simp_all [asB]; done) | (rw [tI_n, hk5] at c20; refine ⟨?_, rfl⟩; rw [hv, c20]; simp_all [asB]; done) | (rw [tI_0, hk5] at c20; exact ⟨by rw [hv, c20]; rfl, rfl⟩)
            · first | exact absurd c63 (by decide) | (rw [tI_n, hk5] at c20; refine ⟨?_, rfl⟩; rw [hv, c20]; rw [i0, b1] at *; simp_all [asB]; done) | (rw [tI_n, hk5] at c20; refine ⟨?_, rfl⟩; rw [hv, c20]; simp_all [asB]; done) | (rw [tI_0, hk5] at c20; exact ⟨by rw [hv, c20]; rfl, rfl⟩)
          · refine And.intro (fun c46 => ?_) (fun c46 => ?_)
            · refine And.intro (fun c63 => ?_) (fun c63 => ?_)
              · first | exact absurd c63 (by decide) | (rw [tI_n, hk5] at c20; refine ⟨?_, rfl⟩; rw [hv, c20]; rw [i0, b1] at *; simp_all [asB]; done) | (rw [tI_n, hk5] at c20; refine ⟨?_, rfl⟩; rw [hv, c20]; simp_all [asB]; done) | (rw [tI_0, hk5] at c20; exact ⟨by rw [hv, c20]; rfl, rfl⟩)
              · first | exact absurd c63 (by decide) | (rw [tI_n, hk5] at c20; refine ⟨?_, rfl⟩; rw [hv, c20]; rw [i0, b1] at *; simp_all [asB]; done) | (rw [tI_n, hk5] at c20; refine ⟨?_, rfl⟩; rw [hv, c20]; simp_all [asB]; done) | (rw [tI_0, hk5] at c20; exact ⟨by rw [hv, c20]; rfl, rfl⟩)
            · refine And.intro (fun c51 => ?_) (fun c51 => ?_)
              · refine And.intro (fun c63 => ?_) (fun c63 => ?_)
                · first | exact absurd c63 (by decide) | (rw [tI_n, hk5] at c20; refine ⟨?_, rfl⟩; rw [hv, c20]; rw [i0, b1] at *; simp_all [asB]; done) | (rw [tI_n, hk5] at c20; refine ⟨?_, rfl⟩; rw [hv, c20]; simp_all [asB]; done) | (rw [tI_0, hk5] at c20; exact ⟨by rw [hv, c20]; rfl, rfl⟩)
                · first | exact absurd c63 (by decide) | (rw [tI_n, hk5] at c20; refine ⟨?_, rfl⟩; rw [hv, c20]; rw [i0, b1] at *; simp_all [asB]; done) | (rw [tI_n, hk5] at c20; refine ⟨?_, rfl⟩; rw [hv, c20]; simp_all [asB]; done) | (rw [tI_0, hk5] at c20; exact ⟨by rw [hv, c20]; rfl, rfl⟩)
              · refine And.intro (fun c63 => ?_) (fun c63 => ?_)
                · first | exact absurd c63 (by decide) | (rw [tI_n, hk5] at c20; refine ⟨?_, rfl⟩; rw [hv, c20]; rw [i0, b1] at *; simp_all [asB]; done) | (rw [tI_n, hk5] at c20; refine ⟨?_, rfl⟩; rw [hv, c20]; simp_all [asB]; done) | (rw [tI_0, hk5] at c20; exact ⟨by rw [hv, c20]; rfl, rfl⟩)
                · first | exact absurd c63 (by decide) | (rw [tI_n, hk5] at c20; refine ⟨?_, rfl⟩; rw [hv, c20]; rw [i0, b1] at *; simp_all [asB]; done) | (rw [tI_n, hk5] at c20; refine ⟨?_, rfl⟩; rw [hv, c20]; simp_all [asB]; done) | (rw [tI_0, hk5] at c20; exact ⟨by rw [hv, c20]; rfl, rfl⟩)
      · first | exact absurd c63 (by decide) | (rw [tI_n, hk5] at c20; refine ⟨?_, rfl⟩; rw [hv, c20]; rw [i0, b1] at *; simp_all [asB]; done) | (rw [tI_n, hk5] at c20; refine ⟨?_, rfl⟩; rw [hv, c20]; simp_all [asB]; done) | (rw [tI_0, hk5] at c20; exact ⟨by rw [hv, c20]; rfl, rfl⟩)
    · rw [hin] at c5; exact absurd c5 (by decide)
