/-! ===== strait, image, restore, of both ===== -/
theorem pr_strait {N : Nat} {h : Hp} (I : Inv N h) (hN : N < 100000) : ∃ x, Pr md_GD_strait md_M_strait [] (.int x) h (N + 1) := by
  obtain ⟨K, A, q3, q4, F, H, p, pg, c, ⟨a1, a2, a3, a4, a5⟩, ⟨b1, b2, b3, b4⟩, ⟨x1, x2, x3⟩, kp⟩ := id I
  cases hok : stOk p pg with
  | false =>
    refine ⟨-103, _, ⟨_, by decide, ct_GD_straitN a4 x2 hok⟩, fun r h1 p1 => ?_⟩
    obtain ⟨e1, f1⟩ := p1
    subst f1
    refine ⟨e1, _, ⟨_, by decide, ct_M_straitN b3 x2 hok⟩, fun r2 h2 p2 => ?_⟩
    obtain ⟨e2, f2⟩ := p2
    exact ⟨e2, I.same (fun i j hn => f2.1 i j (fun h9 => hn (by unfold PG at h9; unfold Nz; omega)))⟩
  | true =>
    refine ⟨nI ((p - 2) / 3), _, ⟨_, by decide, ct_GD_strait (H := H) a4 x2 hok⟩, fun r h1 p1 => ?_⟩
    obtain ⟨e1, n1, n2, n3, n4, n5, n6, f1⟩ := p1
    have b3' := b3.ag (h' := h1) (fun i j hs => f1.1 i j (by unfold PcS PCs PN3 PH6 PcP; omega))
    refine ⟨e1, _, ⟨_, by decide, ct_M_strait b3' x2 hok⟩, fun r2 h2 p2 => ?_⟩
    obtain ⟨e2, m1, m2, m3, m4, f2⟩ := p2
    have g : ∀ i j, i < 73 → h2.1 i j = h1.1 i j := fun i j hs => f2.1 i j (by unfold PSt PG; omega)
    have e12 : h2.1 73 12 = nI (c + 1) := by rw [m4, f1.1 73 12 (by unfold PcS PCs PN3 PH6 PcP; omega), b4]; exact nI_1 c
    have e26 : h2.1 73 26 = h.1 73 26 := by rw [f2.1 73 26 (by unfold PSt PG; omega), f1.1 73 26 (by unfold PcS PCs PN3 PH6 PcP; omega)]
    refine ⟨e2, stK p pg, stA, fun _ => 0, fun _ => 0, 0, hd0 H, 0, pg, c + 1, ⟨n1.ag (fun i j hs => g i j (by omega)), n2.ag (fun i j hs => g i j (by omega)), n3.ag (fun i j hs => g i j (by omega)), n4.ag (fun i j hs => g i j (by omega)), ?_⟩, ⟨m1, ⟨⟨m2, Nat.zero_le 8⟩, fun i hi => absurd hi (Nat.not_lt_zero i)⟩, ⟨⟨m3, Nat.zero_le 18⟩, fun j hj => absurd hj (Nat.not_lt_zero j)⟩, e12⟩, ⟨fun i hi => absurd hi (Nat.not_lt_zero i), fun j hj => absurd hj (Nat.not_lt_zero j), by omega⟩, ?_, Or.inl ⟨by rw [g 0 8 (by omega)]; exact n5, ?_⟩⟩
    · rw [g 0 9 (by omega), n6, a5]; exact nI_1 c
    · rw [e26]
      rcases kp.1 with h9 | ⟨d, hd, h9⟩
      · exact Or.inl h9
      · exact Or.inr ⟨d, by omega, h9⟩
    · rw [e26, e12]
      intro h8
      rcases kp.1 with h9 | ⟨d, hd, h9⟩
      · rw [h9] at h8
        have h7 := congrArg Int32.toInt h8
        rw [nI_toI (by omega), show (-1 : Int32).toInt = -1 from rfl] at h7
        omega
      · rw [h9] at h8
        have := nI_inj (by omega) (by omega) h8
        omega
theorem pr_image {N : Nat} {h : Hp} (I : Inv N h) : ∃ x, Pr md_GD_image md_M_image [] (.int x) h (N + 1) := by
  obtain ⟨K, A, q3, q4, F, H, p, pg, c, ⟨a1, a2, a3, a4, a5⟩, ⟨b1, b2, b3, b4⟩, ⟨x1, x2, x3⟩, kp⟩ := id I
  refine ⟨if kL K = 0 then -103 else aB A, _, ⟨_, by decide, ct_GD_image a1 a2 a3⟩, fun r h1 p1 => ?_⟩
  obtain ⟨e1, n1, n2, f1⟩ := p1
  have b1' := b1.ag (h' := h1) (fun i j hs => f1.1 i j (by unfold PIm PN4 PH7; omega))
  have b2' := b2.ag (h' := h1) (fun i j hs => f1.1 i j (by unfold PIm PN4 PH7; omega))
  refine ⟨e1, _, ⟨_, by decide, ct_M_image b1' b2'⟩, fun r2 h2 p2 => ?_⟩
  obtain ⟨e2, m1, m2, f2⟩ := p2
  refine ⟨e2, ?_⟩
  by_cases hl : kL K = 0
  · have h8 := n2 hl
    have h9 := m2 hl
    subst h8
    subst h9
    exact I.same (fun i j _ => rfl)
  · obtain ⟨n3, n4, n5⟩ := n1 hl
    obtain ⟨m3, m4⟩ := m1 hl
    have T : ∀ i j, ¬ PIm i j → ¬ PKp i j → h2.1 i j = h.1 i j := fun i j u v => (f2.1 i j v).trans (f1.1 i j u)
    have g : ∀ i j, i < 73 → h2.1 i j = h1.1 i j := fun i j hs => f2.1 i j (by unfold PKp; omega)
    have e12 : h2.1 73 12 = nI c := by rw [T 73 12 (by unfold PIm PN4 PH7; omega) (by unfold PKp; omega)]; exact b4
    have e26 : h2.1 73 26 = nI c := by rw [m4, f1.1 73 12 (by unfold PIm PN4 PH7; omega)]; exact b4
    have e08 : h2.1 0 8 = 1 := by rw [g 0 8 (by omega)]; exact n5
    have c1 : CSt K h2 := a1.ag (fun i j hs => T i j (by unfold PIm PN4 PH7; omega) (by unfold PKp; omega))
    refine ⟨K, A, q3, q4, F, H, p, pg, c, ⟨c1, a2.ag (fun i j hs => T i j (by unfold PIm PN4 PH7; omega) (by unfold PKp; omega)), a3.ag (fun i j hs => T i j (by unfold PIm PN4 PH7; omega) (by unfold PKp; omega)), a4.ag (fun i j hs => T i j (by unfold PIm PN4 PH7; omega) (by unfold PKp; omega)), ?_⟩, ⟨b1.ag (fun i j hs => T i j (by unfold PIm PN4 PH7; omega) (by unfold PKp; omega)), b2.ag (fun i j hs => T i j (by unfold PIm PN4 PH7; omega) (by unfold PKp; omega)), b3.ag (fun i j hs => T i j (by unfold PIm PN4 PH7; omega) (by unfold PKp; omega)), e12⟩, ⟨x1, x2, by omega⟩, Or.inr ⟨c, Nat.le_refl c, e26⟩, Or.inr ⟨by rw [e08]; decide, by rw [e26, e12], K, A, q3, q4, F, H, c1, n3.ag (fun i j hs => g i j (by omega)), n4.ag (fun i j hs => g i j (by omega)), m3, x1⟩⟩
    rw [T 0 9 (by unfold PIm PN4 PH7; omega) (by unfold PKp; omega)]
    exact a5
theorem pr_restore {N : Nat} {h : Hp} (I : Inv N h) : ∃ x, Pr md_GD_restore md_M_restore [] (.int x) h (N + 1) := by
  obtain ⟨K, A, q3, q4, F, H, p, pg, c, ⟨a1, a2, a3, a4, a5⟩, ⟨b1, b2, b3, b4⟩, ⟨x1, x2, x3⟩, kp⟩ := id I
  rcases kp.2 with ⟨k1, k2⟩ | ⟨k1, k2, KK, A', q3', q4', F', H', k3, k4, k5, k6, k7⟩
  · refine ⟨-103, _, ⟨_, by decide, ct_GD_restoreN k1⟩, fun r h1 p1 => ?_⟩
    obtain ⟨e1, f1⟩ := p1
    subst f1
    refine ⟨e1, _, ⟨_, by decide, ct_M_restoreN k2⟩, fun r2 h2 p2 => ?_⟩
    obtain ⟨e2, f2⟩ := p2
    subst f2
    exact ⟨e2, I.same (fun i j _ => rfl)⟩
  · refine ⟨aB A', _, ⟨_, by decide, ct_GD_restore k1 k3.1.1.2 k4 k5⟩, fun r h1 p1 => ?_⟩
    obtain ⟨e1, n1, n2, f1⟩ := p1
    have u : ∀ i j, 73 ≤ i → h1.1 i j = h.1 i j := fun i j hs => f1.1 i j (by unfold PRc PN3 PH6; omega)
    have eL : kL K = kL KK := nI_inj (by have := a1.1.1.2; omega) (by have := k3.1.1.2; omega) (a1.1.1.1.symm.trans k3.1.1.1)
    have eR : kR K = kR KK := nI_inj (by have := a1.1.2.1.2; omega) (by have := k3.1.2.1.2; omega) (a1.1.2.1.1.symm.trans k3.1.2.1.1)
    have eD : kD K = kD KK := nI_inj (by have := a1.1.2.2.1.2; omega) (by have := k3.1.2.2.1.2; omega) (a1.1.2.2.1.1.symm.trans k3.1.2.2.1.1)
    have k6' := k6.ag (h' := h1) (fun i j hs => u i j (by omega))
    refine ⟨e1, _, ⟨_, by decide, ct_M_restore (K := KK) (by rw [u 73 26 (by omega), u 73 12 (by omega)]; exact k2) k6' ⟨by rw [u 73 7 (by omega), b1.1.1.1, eL], k3.1.1.2⟩ ⟨by rw [u 73 8 (by omega), b1.1.2.1.1, eR], k3.1.2.1.2⟩ ⟨by rw [u 73 9 (by omega), b1.1.2.2.1.1, eD], k3.1.2.2.1.2⟩⟩, fun r2 h2 p2 => ?_⟩
    obtain ⟨e2, m1, m2, f2⟩ := p2
    have T : ∀ i j, ¬ PRc i j → ¬ PRs i j → h2.1 i j = h.1 i j := fun i j u v => (f2.1 i j v).trans (f1.1 i j u)
    have g : ∀ i j, i < 73 → h2.1 i j = h1.1 i j := fun i j hs => f2.1 i j (by unfold PRs; omega)
    refine ⟨e2, KK, A', q3', q4', F', H', p, pg, c, ⟨k3.ag (fun i j hs => T i j (by unfold PRc PN3 PH6; omega) (by unfold PRs; omega)), n1.ag (fun i j hs => g i j (by omega)), n2.ag (fun i j hs => g i j (by omega)), a4.ag (fun i j hs => T i j (by unfold PRc PN3 PH6; omega) (by unfold PRs; omega)), ?_⟩, ⟨m1, m2, b3.ag (fun i j hs => T i j (by unfold PRc PN3 PH6; omega) (by unfold PRs; omega)), ?_⟩, ⟨k7, x2, by omega⟩, kp.ag (fun i j hs => T i j (by unfold PRc PN3 PH6; omega) (by unfold PRs; omega))⟩
    · rw [T 0 9 (by unfold PRc PN3 PH6; omega) (by unfold PRs; omega)]; exact a5
    · rw [T 73 12 (by unfold PRc PN3 PH6; omega) (by unfold PRs; omega)]; exact b4
