/-! ===== each call, of the class and of the reference ===== -/
def Nz (i j : Nat) : Prop := i = 5 ∨ (57 ≤ i ∧ i ≤ 62) ∨ i = 8 ∨ (78 ≤ i ∧ i ≤ 83) ∨ i = 75 ∨ (i = 73 ∧ (j = 19 ∨ j = 25 ∨ (3 ≤ j ∧ j ≤ 6)))
theorem Inv.same {N : Nat} {h h' : Hp} (I : Inv N h) (e : ∀ i j, ¬ Nz i j → h'.1 i j = h.1 i j) : Inv (N + 1) h' := by
  obtain ⟨K, A, q3, q4, F, H, p, pg, c, ⟨a1, a2, a3, a4, a5⟩, ⟨b1, b2, b3, b4⟩, ⟨x1, x2, x3⟩, kp⟩ := I
  refine ⟨K, A, q3, q4, F, H, p, pg, c, ⟨a1.ag (fun i j hs => e i j (by unfold Nz; omega)), a2.ag (fun i j hs => e i j (by unfold Nz; omega)), a3.ag (fun i j hs => e i j (by unfold Nz; omega)), a4.ag (fun i j hs => e i j (by unfold Nz; omega)), by rw [e 0 9 (by unfold Nz; omega)]; exact a5⟩, ⟨b1.ag (fun i j hs => e i j (by unfold Nz; omega)), b2.ag (fun i j hs => e i j (by unfold Nz; omega)), b3.ag (fun i j hs => e i j (by unfold Nz; omega)), by rw [e 73 12 (by unfold Nz; omega)]; exact b4⟩, ⟨x1, x2, by omega⟩, kp.ag (fun i j hs => e i j (by unfold Nz; omega))⟩
theorem pr_fault {N : Nat} {h : Hp} (I : Inv N h) : ∃ x, Pr md_GD_fault md_M_fault [] (.int x) h (N + 1) := by
  obtain ⟨K, A, q3, q4, F, H, p, pg, c, ⟨a1, a2, a3, a4, a5⟩, ⟨b1, b2, b3, b4⟩, ⟨x1, x2, x3⟩, kp⟩ := id I
  refine ⟨nI (ffF pg p 0 none).1, _, ⟨_, by decide, ct_GD_fault a4 x2⟩, fun r h1 p1 => ?_⟩
  obtain ⟨e1, f1⟩ := p1
  subst f1
  have b1' := b1
  have b2' := b2
  have b3' := b3
  have b4' := b4
  refine ⟨e1, _, ⟨_, by decide, ct_M_fault b3' x2⟩, fun r2 h2 p2 => ?_⟩
  obtain ⟨e2, f2⟩ := p2
  exact ⟨e2, I.same (fun i j hn => (f2.1 i j (fun h9 => hn (by unfold PG at h9; unfold Nz; omega))))⟩
theorem pr_about {N : Nat} {h : Hp} (I : Inv N h) (k w : Int32) : ∃ x, Pr md_GD_about md_M_about [.int k, .int w] (.int x) h (N + 1) := by
  obtain ⟨K, A, q3, q4, F, H, p, pg, c, ⟨a1, a2, a3, a4, a5⟩, ⟨b1, b2, b3, b4⟩, ⟨x1, x2, x3⟩, kp⟩ := id I
  refine ⟨if inR k (kL K) then tellV K A q3 q4 k.toNatClampNeg w else -101, _, ⟨_, by decide, ct_GD_about a1 a2 k w⟩, fun r h1 p1 => ?_⟩
  obtain ⟨e1, f1⟩ := p1
  have b1' := b1.ag (h' := h1) (fun i j hs => f1.1 i j (by unfold PN5; omega))
  have b2' := b2.ag (h' := h1) (fun i j hs => f1.1 i j (by unfold PN5; omega))
  have b3' := b3.ag (h' := h1) (fun i j hs => f1.1 i j (by unfold PN5; omega))
  have b4' : h1.1 73 12 = nI c := by rw [f1.1 73 12 (by unfold PN5; omega)]; exact b4
  refine ⟨e1, _, ⟨_, by decide, ct_M_about b1' k w⟩, fun r2 h2 p2 => ?_⟩
  obtain ⟨e2, f2⟩ := p2
  exact ⟨e2, I.same (fun i j hn => (f2.1 i j (fun h9 => hn (by unfold P9 P7 P8 at h9; unfold Nz; omega))).trans (f1.1 i j (fun h9 => hn (by unfold PN5 at h9; unfold Nz; omega))))⟩
theorem pr_as {N : Nat} {h : Hp} (I : Inv N h) (k w : Int32) : ∃ x, Pr md_GD_as md_M_as [.int k, .int w] (.int x) h (N + 1) := by
  obtain ⟨K, A, q3, q4, F, H, p, pg, c, ⟨a1, a2, a3, a4, a5⟩, ⟨b1, b2, b3, b4⟩, ⟨x1, x2, x3⟩, kp⟩ := id I
  refine ⟨asV K k w, _, ⟨_, by decide, ct_GD_as a1 k w⟩, fun r h1 p1 => ?_⟩
  obtain ⟨e1, f1⟩ := p1
  subst f1
  have b1' := b1
  have b2' := b2
  have b3' := b3
  have b4' := b4
  refine ⟨e1, _, ⟨_, by decide, ct_M_as b1'.1 k w⟩, fun r2 h2 p2 => ?_⟩
  obtain ⟨e2, f2⟩ := p2
  subst f2
  exact ⟨e2, I.same (fun i j hn => rfl)⟩
theorem pr_shipOf {N : Nat} {h : Hp} (I : Inv N h) (k w : Int32) : ∃ x, Pr md_GD_shipOf md_M_shipOf [.int k, .int w] (.int x) h (N + 1) := by
  obtain ⟨K, A, q3, q4, F, H, p, pg, c, ⟨a1, a2, a3, a4, a5⟩, ⟨b1, b2, b3, b4⟩, ⟨x1, x2, x3⟩, kp⟩ := id I
  refine ⟨if inR k (kN K) then shipV K A k.toNatClampNeg w else -101, _, ⟨_, by decide, ct_GD_shipOf a1 a2 k w⟩, fun r h1 p1 => ?_⟩
  obtain ⟨e1, f1⟩ := p1
  subst f1
  have b1' := b1
  have b2' := b2
  have b3' := b3
  have b4' := b4
  refine ⟨e1, _, ⟨_, by decide, ct_M_shipOf b1' k w⟩, fun r2 h2 p2 => ?_⟩
  obtain ⟨e2, f2⟩ := p2
  exact ⟨e2, I.same (fun i j hn => (f2.1 i j (fun h9 => hn (by unfold P9 P7 P8 at h9; unfold Nz; omega))))⟩
theorem pr_atOnce {N : Nat} {h : Hp} (I : Inv N h) (w : Int32) : ∃ x, Pr md_GD_atOnce md_M_atOnce [.int w] (.int x) h (N + 1) := by
  obtain ⟨K, A, q3, q4, F, H, p, pg, c, ⟨a1, a2, a3, a4, a5⟩, ⟨b1, b2, b3, b4⟩, ⟨x1, x2, x3⟩, kp⟩ := id I
  refine ⟨onceV K A w, _, ⟨_, by decide, ct_GD_atOnce a1 a2 w⟩, fun r h1 p1 => ?_⟩
  obtain ⟨e1, f1⟩ := p1
  subst f1
  have b1' := b1
  have b2' := b2
  have b3' := b3
  have b4' := b4
  refine ⟨e1, _, ⟨_, by decide, ct_M_atOnce b1' w⟩, fun r2 h2 p2 => ?_⟩
  obtain ⟨e2, f2⟩ := p2
  exact ⟨e2, I.same (fun i j hn => (f2.1 i j (fun h9 => hn (by unfold P9 P7 P8 at h9; unfold Nz; omega))))⟩
theorem pr_worlds {N : Nat} {h : Hp} (I : Inv N h) (w : Int32) : ∃ x, Pr md_GD_worlds md_M_worlds [.int w] (.int x) h (N + 1) := by
  obtain ⟨K, A, q3, q4, F, H, p, pg, c, ⟨a1, a2, a3, a4, a5⟩, ⟨b1, b2, b3, b4⟩, ⟨x1, x2, x3⟩, kp⟩ := id I
  refine ⟨wldV K H w, _, ⟨_, by decide, ct_GD_worlds a1 a3 x1 w⟩, fun r h1 p1 => ?_⟩
  obtain ⟨e1, f1⟩ := p1
  subst f1
  have b1' := b1
  have b2' := b2
  have b3' := b3
  have b4' := b4
  refine ⟨e1, _, ⟨_, by decide, ct_M_worlds b1'.1 b2' x1 w⟩, fun r2 h2 p2 => ?_⟩
  obtain ⟨e2, f2⟩ := p2
  subst f2
  exact ⟨e2, I.same (fun i j hn => rfl)⟩
theorem pr_next {N : Nat} {h : Hp} (I : Inv N h) : ∃ x, Pr md_GD_next md_M_next [] (.int x) h (N + 1) := by
  obtain ⟨K, A, q3, q4, F, H, p, pg, c, ⟨a1, a2, a3, a4, a5⟩, ⟨b1, b2, b3, b4⟩, ⟨x1, x2, x3⟩, kp⟩ := id I
  refine ⟨nextV K A H, _, ⟨_, by decide, ct_GD_next a1 a2 a3 x1⟩, fun r h1 p1 => ?_⟩
  obtain ⟨e1, f1⟩ := p1
  subst f1
  have b1' := b1
  have b2' := b2
  have b3' := b3
  have b4' := b4
  refine ⟨e1, _, ⟨_, by decide, ct_M_next b1' b2' x1⟩, fun r2 h2 p2 => ?_⟩
  obtain ⟨e2, f2⟩ := p2
  subst f2
  exact ⟨e2, I.same (fun i j hn => rfl)⟩
theorem pr_kinds {N : Nat} {h : Hp} (I : Inv N h) (w : Int32) : ∃ x, Pr md_GD_kinds md_M_kinds [.int w] (.int x) h (N + 1) := by
  obtain ⟨K, A, q3, q4, F, H, p, pg, c, ⟨a1, a2, a3, a4, a5⟩, ⟨b1, b2, b3, b4⟩, ⟨x1, x2, x3⟩, kp⟩ := id I
  refine ⟨kndV K H w, _, ⟨_, by decide, ct_GD_kinds a1 a3 x1 w⟩, fun r h1 p1 => ?_⟩
  obtain ⟨e1, f1⟩ := p1
  subst f1
  have b1' := b1
  have b2' := b2
  have b3' := b3
  have b4' := b4
  refine ⟨e1, _, ⟨_, by decide, ct_M_kinds b1'.1 b2' x1 w⟩, fun r2 h2 p2 => ?_⟩
  obtain ⟨e2, f2⟩ := p2
  subst f2
  exact ⟨e2, I.same (fun i j hn => rfl)⟩
theorem pr_nights {N : Nat} {h : Hp} (I : Inv N h) (b s w : Int32) : ∃ x, Pr md_GD_nights md_M_nights [.int b, .int s, .int w] (.int x) h (N + 1) := by
  obtain ⟨K, A, q3, q4, F, H, p, pg, c, ⟨a1, a2, a3, a4, a5⟩, ⟨b1, b2, b3, b4⟩, ⟨x1, x2, x3⟩, kp⟩ := id I
  refine ⟨ngV K A F b s w, _, ⟨_, by decide, ct_GD_nights a1 a2 b s w⟩, fun r h1 p1 => ?_⟩
  obtain ⟨e1, f1⟩ := p1
  have b1' := b1.ag (h' := h1) (fun i j hs => f1.1 i j (by unfold PDr PN5; omega))
  have b2' := b2.ag (h' := h1) (fun i j hs => f1.1 i j (by unfold PDr PN5; omega))
  have b3' := b3.ag (h' := h1) (fun i j hs => f1.1 i j (by unfold PDr PN5; omega))
  have b4' : h1.1 73 12 = nI c := by rw [f1.1 73 12 (by unfold PDr PN5; omega)]; exact b4
  refine ⟨e1, _, ⟨_, by decide, ct_M_nights b1' b s w⟩, fun r2 h2 p2 => ?_⟩
  obtain ⟨e2, f2⟩ := p2
  exact ⟨e2, I.same (fun i j hn => (f2.1 i j (fun h9 => hn (by unfold PS P9 P7 P8 at h9; unfold Nz; omega))).trans (f1.1 i j (fun h9 => hn (by unfold PDr PN5 at h9; unfold Nz; omega))))⟩
theorem pr_count {N : Nat} {h : Hp} (I : Inv N h) (w : Int32) : ∃ x, Pr md_GD_count md_M_count [.int w] (.int x) h (N + 1) := by
  obtain ⟨K, A, q3, q4, F, H, p, pg, c, ⟨a1, a2, a3, a4, a5⟩, ⟨b1, b2, b3, b4⟩, ⟨x1, x2, x3⟩, kp⟩ := id I
  refine ⟨cntV K A F (dM H) p c w, _, ⟨_, by decide, ct_GD_count a1 a2 a3 a4 a5 w⟩, fun r h1 p1 => ?_⟩
  obtain ⟨e1, f1⟩ := p1
  subst f1
  have b1' := b1
  have b2' := b2
  have b3' := b3
  have b4' := b4
  refine ⟨e1, _, ⟨_, by decide, ct_M_count b1' b2' b3' b4' w⟩, fun r2 h2 p2 => ?_⟩
  obtain ⟨e2, f2⟩ := p2
  subst f2
  exact ⟨e2, I.same (fun i j hn => rfl)⟩
theorem pr_digest {N : Nat} {h : Hp} (I : Inv N h) : ∃ x, Pr md_GD_digest md_M_digest [] (.long x) h (N + 1) := by
  obtain ⟨K, A, q3, q4, F, H, p, pg, c, ⟨a1, a2, a3, a4, a5⟩, ⟨b1, b2, b3, b4⟩, ⟨x1, x2, x3⟩, kp⟩ := id I
  refine ⟨digV K A q3 q4 F H p pg c, _, ⟨_, by decide, ct_GD_digest a1 a2 a3 x1 a4 a5⟩, fun r h1 p1 => ?_⟩
  obtain ⟨e1, f1⟩ := p1
  have b1' := b1.ag (h' := h1) (fun i j hs => f1.1 i j (by unfold PN5; omega))
  have b2' := b2.ag (h' := h1) (fun i j hs => f1.1 i j (by unfold PN5; omega))
  have b3' := b3.ag (h' := h1) (fun i j hs => f1.1 i j (by unfold PN5; omega))
  have b4' : h1.1 73 12 = nI c := by rw [f1.1 73 12 (by unfold PN5; omega)]; exact b4
  refine ⟨e1, _, ⟨_, by decide, ct_M_digest b1' b2' x1 b3' b4'⟩, fun r2 h2 p2 => ?_⟩
  obtain ⟨e2, f2⟩ := p2
  exact ⟨e2, I.same (fun i j hn => (f2 i j (fun h9 => hn (by unfold P9 P7 P8 at h9; unfold Nz; omega))).trans (f1.1 i j (fun h9 => hn (by unfold PN5 at h9; unfold Nz; omega))))⟩
theorem CSt.sh {K : KF} {x c : Int32} {h : Hp} (a : CSt K h) : CSt (shK K x c) h := by
  unfold shK
  cases shQ K x c with
  | false => exact a
  | true => exact a
theorem shK_L (K : KF) (x c : Int32) : kL (shK K x c) = kL K := by
  unfold shK
  cases shQ K x c <;> rfl
theorem pr_letter {N : Nat} {h : Hp} (I : Inv N h) (k : Int32) : ∃ x, Pr md_GD_letter md_M_letter [.int k] (.int x) h (N + 1) := by
  obtain ⟨K, A, q3, q4, F, H, p, pg, c, ⟨a1, a2, a3, a4, a5⟩, ⟨b1, b2, b3, b4⟩, ⟨x1, x2, x3⟩, kp⟩ := id I
  refine ⟨ltV p k, _, ⟨_, by decide, ct_GD_letter a4 k⟩, fun r h1 p1 => ?_⟩
  obtain ⟨e1, n1, f1⟩ := p1
  have b1' := b1.ag (h' := h1) (fun i j hs => f1.1 i j (by unfold PcP; omega))
  have b2' := b2.ag (h' := h1) (fun i j hs => f1.1 i j (by unfold PcP; omega))
  have b3' := b3.ag (h' := h1) (fun i j hs => f1.1 i j (by unfold PcP; omega))
  have b4' : h1.1 73 12 = nI c := by rw [f1.1 73 12 (by unfold PcP; omega)]; exact b4
  refine ⟨e1, _, ⟨_, by decide, ct_M_letter b3' k⟩, fun r2 h2 p2 => ?_⟩
  obtain ⟨e2, n2, f2⟩ := p2
  have T : ∀ i j, ¬ PcP i j → ¬ PPg i j → h2.1 i j = h.1 i j := fun i j u v => (f2.1 i j v).trans (f1.1 i j u)
  refine ⟨e2, K, A, q3, q4, F, H, ltP p k, ltG p pg k, c, ⟨a1.ag (fun i j hs => T i j (by unfold PcP; omega) (by unfold PPg; omega)), a2.ag (fun i j hs => T i j (by unfold PcP; omega) (by unfold PPg; omega)), a3.ag (fun i j hs => T i j (by unfold PcP; omega) (by unfold PPg; omega)), n1.ag (fun i j hs => f2.1 i j (by unfold PPg; omega)), by rw [T 0 9 (by unfold PcP; omega) (by unfold PPg; omega)]; exact a5⟩, ⟨b1.ag (fun i j hs => T i j (by unfold PcP; omega) (by unfold PPg; omega)), b2.ag (fun i j hs => T i j (by unfold PcP; omega) (by unfold PPg; omega)), n2, by rw [T 73 12 (by unfold PcP; omega) (by unfold PPg; omega)]; exact b4⟩, ?_, kp.ag (fun i j hs => T i j (by unfold PcP; omega) (by unfold PPg; omega))⟩
  refine ⟨x1, fun j hj => ?_, by omega⟩
  unfold ltP at hj
  unfold ltG
  by_cases hc : (ltOk k && !(decide (p = 18))) = true
  · rw [if_pos hc] at hj
    rw [if_pos hc]
    rw [Bool.and_eq_true] at hc
    by_cases h9 : j = p
    · rw [if_pos h9]; exact hc.1
    · rw [if_neg h9]; exact x2 j (by omega)
  · rw [if_neg hc] at hj
    rw [if_neg hc]
    exact x2 j hj
theorem pr_blank {N : Nat} {h : Hp} (I : Inv N h) : ∃ x, Pr md_GD_blank md_M_blank [] (.int x) h (N + 1) := by
  obtain ⟨K, A, q3, q4, F, H, p, pg, c, ⟨a1, a2, a3, a4, a5⟩, ⟨b1, b2, b3, b4⟩, ⟨x1, x2, x3⟩, kp⟩ := id I
  refine ⟨nI p, _, ⟨_, by decide, ct_GD_blank a4⟩, fun r h1 p1 => ?_⟩
  obtain ⟨e1, n1, f1⟩ := p1
  have b1' := b1.ag (h' := h1) (fun i j hs => f1.1 i j (by unfold PcP; omega))
  have b2' := b2.ag (h' := h1) (fun i j hs => f1.1 i j (by unfold PcP; omega))
  have b3' := b3.ag (h' := h1) (fun i j hs => f1.1 i j (by unfold PcP; omega))
  have b4' : h1.1 73 12 = nI c := by rw [f1.1 73 12 (by unfold PcP; omega)]; exact b4
  refine ⟨e1, _, ⟨_, by decide, ct_M_blank b3'⟩, fun r2 h2 p2 => ?_⟩
  obtain ⟨e2, n2, f2⟩ := p2
  have T : ∀ i j, ¬ PcP i j → ¬ PPg i j → h2.1 i j = h.1 i j := fun i j u v => (f2.1 i j v).trans (f1.1 i j u)
  refine ⟨e2, K, A, q3, q4, F, H, 0, pg, c, ⟨a1.ag (fun i j hs => T i j (by unfold PcP; omega) (by unfold PPg; omega)), a2.ag (fun i j hs => T i j (by unfold PcP; omega) (by unfold PPg; omega)), a3.ag (fun i j hs => T i j (by unfold PcP; omega) (by unfold PPg; omega)), n1.ag (fun i j hs => f2.1 i j (by unfold PPg; omega)), by rw [T 0 9 (by unfold PcP; omega) (by unfold PPg; omega)]; exact a5⟩, ⟨b1.ag (fun i j hs => T i j (by unfold PcP; omega) (by unfold PPg; omega)), b2.ag (fun i j hs => T i j (by unfold PcP; omega) (by unfold PPg; omega)), n2, by rw [T 73 12 (by unfold PcP; omega) (by unfold PPg; omega)]; exact b4⟩, ?_, kp.ag (fun i j hs => T i j (by unfold PcP; omega) (by unfold PPg; omega))⟩
  exact ⟨x1, fun j hj => absurd hj (Nat.not_lt_zero j), by omega⟩
theorem pr_fact {N : Nat} {h : Hp} (I : Inv N h) (f : Int32) (t : Bool) : ∃ x, Pr md_GD_fact md_M_fact [.int f, .int (tI t)] (.int x) h (N + 1) := by
  obtain ⟨K, A, q3, q4, F, H, p, pg, c, ⟨a1, a2, a3, a4, a5⟩, ⟨b1, b2, b3, b4⟩, ⟨x1, x2, x3⟩, kp⟩ := id I
  refine ⟨factV K F f, _, ⟨_, by decide, ct_GD_fact a1 a2 f t⟩, fun r h1 p1 => ?_⟩
  obtain ⟨e1, n1, f1⟩ := p1
  have b1' := b1.ag (h' := h1) (fun i j hs => f1.1 i j (by unfold PN3; omega))
  have b2' := b2.ag (h' := h1) (fun i j hs => f1.1 i j (by unfold PN3; omega))
  have b3' := b3.ag (h' := h1) (fun i j hs => f1.1 i j (by unfold PN3; omega))
  have b4' : h1.1 73 12 = nI c := by rw [f1.1 73 12 (by unfold PN3; omega)]; exact b4
  refine ⟨e1, _, ⟨_, by decide, ct_M_fact b1' f t⟩, fun r2 h2 p2 => ?_⟩
  obtain ⟨e2, n2, f2⟩ := p2
  have T : ∀ i j, ¬ PN3 i j → ¬ PN i j → h2.1 i j = h.1 i j := fun i j u v => (f2.1 i j v).trans (f1.1 i j u)
  refine ⟨e2, K, A, q3, q4, factF K F f t, H, p, pg, c, ⟨a1.ag (fun i j hs => T i j (by unfold PN3; omega) (by unfold PN P9 P7 P8; omega)), n1.ag (fun i j hs => f2.1 i j (by unfold PN P9 P7 P8; omega)), a3.ag (fun i j hs => T i j (by unfold PN3; omega) (by unfold PN P9 P7 P8; omega)), a4.ag (fun i j hs => T i j (by unfold PN3; omega) (by unfold PN P9 P7 P8; omega)), by rw [T 0 9 (by unfold PN3; omega) (by unfold PN P9 P7 P8; omega)]; exact a5⟩, ⟨n2, b2.ag (fun i j hs => T i j (by unfold PN3; omega) (by unfold PN P9 P7 P8; omega)), b3.ag (fun i j hs => T i j (by unfold PN3; omega) (by unfold PN P9 P7 P8; omega)), by rw [T 73 12 (by unfold PN3; omega) (by unfold PN P9 P7 P8; omega)]; exact b4⟩, ?_, kp.ag (fun i j hs => T i j (by unfold PN3; omega) (by unfold PN P9 P7 P8; omega))⟩
  exact ⟨x1, x2, by omega⟩
theorem pr_ship {N : Nat} {h : Hp} (I : Inv N h) (k w : Int32) : ∃ x, Pr md_GD_ship md_M_ship [.int k, .int w] (.int x) h (N + 1) := by
  obtain ⟨K, A, q3, q4, F, H, p, pg, c, ⟨a1, a2, a3, a4, a5⟩, ⟨b1, b2, b3, b4⟩, ⟨x1, x2, x3⟩, kp⟩ := id I
  refine ⟨shV K k w, _, ⟨_, by decide, ct_GD_ship a1 a2 k w⟩, fun r h1 p1 => ?_⟩
  obtain ⟨e1, n1, f1⟩ := p1
  have b1' := b1.ag (h' := h1) (fun i j hs => f1.1 i j (by unfold PN3; omega))
  have b2' := b2.ag (h' := h1) (fun i j hs => f1.1 i j (by unfold PN3; omega))
  have b3' := b3.ag (h' := h1) (fun i j hs => f1.1 i j (by unfold PN3; omega))
  have b4' : h1.1 73 12 = nI c := by rw [f1.1 73 12 (by unfold PN3; omega)]; exact b4
  refine ⟨e1, _, ⟨_, by decide, ct_M_ship b1' k w⟩, fun r2 h2 p2 => ?_⟩
  obtain ⟨e2, n2, f2⟩ := p2
  have T : ∀ i j, ¬ PN3 i j → ¬ PN i j → h2.1 i j = h.1 i j := fun i j u v => (f2.1 i j v).trans (f1.1 i j u)
  refine ⟨e2, shK K k w, shA K A k w, q3, q4, F, H, p, pg, c, ⟨(a1.ag (fun i j hs => T i j (by unfold PN3; omega) (by unfold PN P9 P7 P8; omega))).sh, n1.ag (fun i j hs => f2.1 i j (by unfold PN P9 P7 P8; omega)), a3.ag (fun i j hs => T i j (by unfold PN3; omega) (by unfold PN P9 P7 P8; omega)), a4.ag (fun i j hs => T i j (by unfold PN3; omega) (by unfold PN P9 P7 P8; omega)), by rw [T 0 9 (by unfold PN3; omega) (by unfold PN P9 P7 P8; omega)]; exact a5⟩, ⟨n2, b2.ag (fun i j hs => T i j (by unfold PN3; omega) (by unfold PN P9 P7 P8; omega)), b3.ag (fun i j hs => T i j (by unfold PN3; omega) (by unfold PN P9 P7 P8; omega)), by rw [T 73 12 (by unfold PN3; omega) (by unfold PN P9 P7 P8; omega)]; exact b4⟩, ?_, kp.ag (fun i j hs => T i j (by unfold PN3; omega) (by unfold PN P9 P7 P8; omega))⟩
  exact ⟨fun i hi => by rw [shK_L]; exact x1 i hi, x2, by omega⟩
theorem pr_ask {N : Nat} {h : Hp} (I : Inv N h) (k f : Int32) (t : Bool) : ∃ x, Pr md_GD_ask md_M_ask [.int k, .int f, .int (tI t)] (.int x) h (N + 1) := by
  obtain ⟨K, A, q3, q4, F, H, p, pg, c, ⟨a1, a2, a3, a4, a5⟩, ⟨b1, b2, b3, b4⟩, ⟨x1, x2, x3⟩, kp⟩ := id I
  refine ⟨askV K A F k f t, _, ⟨_, by decide, ct_GD_ask a1 a2 k f t⟩, fun r h1 p1 => ?_⟩
  obtain ⟨e1, n1, f1⟩ := p1
  have b1' := b1.ag (h' := h1) (fun i j hs => f1.1 i j (by unfold PN3; omega))
  have b2' := b2.ag (h' := h1) (fun i j hs => f1.1 i j (by unfold PN3; omega))
  have b3' := b3.ag (h' := h1) (fun i j hs => f1.1 i j (by unfold PN3; omega))
  have b4' : h1.1 73 12 = nI c := by rw [f1.1 73 12 (by unfold PN3; omega)]; exact b4
  refine ⟨e1, _, ⟨_, by decide, ct_M_ask b1' k f t⟩, fun r2 h2 p2 => ?_⟩
  obtain ⟨e2, n2, f2⟩ := p2
  have T : ∀ i j, ¬ PN3 i j → ¬ PN i j → h2.1 i j = h.1 i j := fun i j u v => (f2.1 i j v).trans (f1.1 i j u)
  refine ⟨e2, K, askA K A F k f t, ask3 K A q3 k f, ask4 K A F q4 k f t, F, H, p, pg, c, ⟨a1.ag (fun i j hs => T i j (by unfold PN3; omega) (by unfold PN P9 P7 P8; omega)), n1.ag (fun i j hs => f2.1 i j (by unfold PN P9 P7 P8; omega)), a3.ag (fun i j hs => T i j (by unfold PN3; omega) (by unfold PN P9 P7 P8; omega)), a4.ag (fun i j hs => T i j (by unfold PN3; omega) (by unfold PN P9 P7 P8; omega)), by rw [T 0 9 (by unfold PN3; omega) (by unfold PN P9 P7 P8; omega)]; exact a5⟩, ⟨n2, b2.ag (fun i j hs => T i j (by unfold PN3; omega) (by unfold PN P9 P7 P8; omega)), b3.ag (fun i j hs => T i j (by unfold PN3; omega) (by unfold PN P9 P7 P8; omega)), by rw [T 73 12 (by unfold PN3; omega) (by unfold PN P9 P7 P8; omega)]; exact b4⟩, ?_, kp.ag (fun i j hs => T i j (by unfold PN3; omega) (by unfold PN P9 P7 P8; omega))⟩
  exact ⟨x1, x2, by omega⟩
theorem pr_breath {N : Nat} {h : Hp} (I : Inv N h) : ∃ x, Pr md_GD_breath md_M_breath [] (.int x) h (N + 1) := by
  obtain ⟨K, A, q3, q4, F, H, p, pg, c, ⟨a1, a2, a3, a4, a5⟩, ⟨b1, b2, b3, b4⟩, ⟨x1, x2, x3⟩, kp⟩ := id I
  refine ⟨brV K A, _, ⟨_, by decide, ct_GD_breath a1 a2⟩, fun r h1 p1 => ?_⟩
  obtain ⟨e1, n1, f1⟩ := p1
  have b1' := b1.ag (h' := h1) (fun i j hs => f1.1 i j (by unfold PN3; omega))
  have b2' := b2.ag (h' := h1) (fun i j hs => f1.1 i j (by unfold PN3; omega))
  have b3' := b3.ag (h' := h1) (fun i j hs => f1.1 i j (by unfold PN3; omega))
  have b4' : h1.1 73 12 = nI c := by rw [f1.1 73 12 (by unfold PN3; omega)]; exact b4
  refine ⟨e1, _, ⟨_, by decide, ct_M_breath b1'⟩, fun r2 h2 p2 => ?_⟩
  obtain ⟨e2, n2, f2⟩ := p2
  have T : ∀ i j, ¬ PN3 i j → ¬ PN i j → h2.1 i j = h.1 i j := fun i j u v => (f2.1 i j v).trans (f1.1 i j u)
  refine ⟨e2, K, brA K A, q3, q4, F, H, p, pg, c, ⟨a1.ag (fun i j hs => T i j (by unfold PN3; omega) (by unfold PN P9 P7 P8; omega)), n1.ag (fun i j hs => f2.1 i j (by unfold PN P9 P7 P8; omega)), a3.ag (fun i j hs => T i j (by unfold PN3; omega) (by unfold PN P9 P7 P8; omega)), a4.ag (fun i j hs => T i j (by unfold PN3; omega) (by unfold PN P9 P7 P8; omega)), by rw [T 0 9 (by unfold PN3; omega) (by unfold PN P9 P7 P8; omega)]; exact a5⟩, ⟨n2, b2.ag (fun i j hs => T i j (by unfold PN3; omega) (by unfold PN P9 P7 P8; omega)), b3.ag (fun i j hs => T i j (by unfold PN3; omega) (by unfold PN P9 P7 P8; omega)), by rw [T 73 12 (by unfold PN3; omega) (by unfold PN P9 P7 P8; omega)]; exact b4⟩, ?_, kp.ag (fun i j hs => T i j (by unfold PN3; omega) (by unfold PN P9 P7 P8; omega))⟩
  exact ⟨x1, x2, by omega⟩
theorem pr_hear {N : Nat} {h : Hp} (I : Inv N h) (k f : Int32) (t : Bool) (b : Int32) (y : Bool) : ∃ x, Pr md_GD_hear md_M_hear [.int k, .int f, .int (tI t), .int b, .int (tI y)] (.int x) h (N + 1) := by
  obtain ⟨K, A, q3, q4, F, H, p, pg, c, ⟨a1, a2, a3, a4, a5⟩, ⟨b1, b2, b3, b4⟩, ⟨x1, x2, x3⟩, kp⟩ := id I
  refine ⟨hrV K H k f b, _, ⟨_, by decide, ct_GD_hear a1 a3 k f t b y⟩, fun r h1 p1 => ?_⟩
  obtain ⟨e1, n1, f1⟩ := p1
  have b1' := b1.ag (h' := h1) (fun i j hs => f1.1 i j (by unfold PH6; omega))
  have b2' := b2.ag (h' := h1) (fun i j hs => f1.1 i j (by unfold PH6; omega))
  have b3' := b3.ag (h' := h1) (fun i j hs => f1.1 i j (by unfold PH6; omega))
  have b4' : h1.1 73 12 = nI c := by rw [f1.1 73 12 (by unfold PH6; omega)]; exact b4
  refine ⟨e1, _, ⟨_, by decide, ct_M_hear b1'.1 b2' k f t b y⟩, fun r2 h2 p2 => ?_⟩
  obtain ⟨e2, n2, f2⟩ := p2
  have T : ∀ i j, ¬ PH6 i j → ¬ PHd i j → h2.1 i j = h.1 i j := fun i j u v => (f2.1 i j v).trans (f1.1 i j u)
  refine ⟨e2, K, A, q3, q4, F, hrH K H k f t b y, p, pg, c, ⟨a1.ag (fun i j hs => T i j (by unfold PH6; omega) (by unfold PHd; omega)), a2.ag (fun i j hs => T i j (by unfold PH6; omega) (by unfold PHd; omega)), n1.ag (fun i j hs => f2.1 i j (by unfold PHd; omega)), a4.ag (fun i j hs => T i j (by unfold PH6; omega) (by unfold PHd; omega)), by rw [T 0 9 (by unfold PH6; omega) (by unfold PHd; omega)]; exact a5⟩, ⟨b1.ag (fun i j hs => T i j (by unfold PH6; omega) (by unfold PHd; omega)), n2, b3.ag (fun i j hs => T i j (by unfold PH6; omega) (by unfold PHd; omega)), by rw [T 73 12 (by unfold PH6; omega) (by unfold PHd; omega)]; exact b4⟩, ?_, kp.ag (fun i j hs => T i j (by unfold PH6; omega) (by unfold PHd; omega))⟩
  refine ⟨fun i hi => ?_, x2, by omega⟩
  unfold hrH at hi ⊢
  cases hq : hrQ K H k f b with
  | false => rw [hq] at hi; exact x1 i hi
  | true =>
    rw [hq] at hi
    have hi' : i < dM H + 1 := hi
    show (if i = dM H then k.toNatClampNeg else dL H i) < kL K
    by_cases h9 : i = dM H
    · rw [if_pos h9]
      unfold hrQ at hq
      rw [Bool.and_eq_true, Bool.and_eq_true, Bool.and_eq_true] at hq
      obtain ⟨j, hj, rfl⟩ := inR_t hq.1.1.1
      rw [nIc (by have := a1.1.1.2; omega)]
      exact hj
    · rw [if_neg h9]
      exact x1 i (by omega)
theorem pr_forget {N : Nat} {h : Hp} (I : Inv N h) : ∃ x, Pr md_GD_forget md_M_forget [] (.int x) h (N + 1) := by
  obtain ⟨K, A, q3, q4, F, H, p, pg, c, ⟨a1, a2, a3, a4, a5⟩, ⟨b1, b2, b3, b4⟩, ⟨x1, x2, x3⟩, kp⟩ := id I
  refine ⟨nI (dM H), _, ⟨_, by decide, ct_GD_forget a3⟩, fun r h1 p1 => ?_⟩
  obtain ⟨e1, n1, f1⟩ := p1
  have b1' := b1.ag (h' := h1) (fun i j hs => f1.1 i j (by unfold PH6; omega))
  have b2' := b2.ag (h' := h1) (fun i j hs => f1.1 i j (by unfold PH6; omega))
  have b3' := b3.ag (h' := h1) (fun i j hs => f1.1 i j (by unfold PH6; omega))
  have b4' : h1.1 73 12 = nI c := by rw [f1.1 73 12 (by unfold PH6; omega)]; exact b4
  refine ⟨e1, _, ⟨_, by decide, ct_M_forget b2'⟩, fun r2 h2 p2 => ?_⟩
  obtain ⟨e2, n2, f2⟩ := p2
  have T : ∀ i j, ¬ PH6 i j → ¬ PHd i j → h2.1 i j = h.1 i j := fun i j u v => (f2.1 i j v).trans (f1.1 i j u)
  refine ⟨e2, K, A, q3, q4, F, hd0 H, p, pg, c, ⟨a1.ag (fun i j hs => T i j (by unfold PH6; omega) (by unfold PHd; omega)), a2.ag (fun i j hs => T i j (by unfold PH6; omega) (by unfold PHd; omega)), n1.ag (fun i j hs => f2.1 i j (by unfold PHd; omega)), a4.ag (fun i j hs => T i j (by unfold PH6; omega) (by unfold PHd; omega)), by rw [T 0 9 (by unfold PH6; omega) (by unfold PHd; omega)]; exact a5⟩, ⟨b1.ag (fun i j hs => T i j (by unfold PH6; omega) (by unfold PHd; omega)), n2, b3.ag (fun i j hs => T i j (by unfold PH6; omega) (by unfold PHd; omega)), by rw [T 73 12 (by unfold PH6; omega) (by unfold PHd; omega)]; exact b4⟩, ?_, kp.ag (fun i j hs => T i j (by unfold PH6; omega) (by unfold PHd; omega))⟩
  exact ⟨fun i hi => absurd hi (Nat.not_lt_zero i), x2, by omega⟩
