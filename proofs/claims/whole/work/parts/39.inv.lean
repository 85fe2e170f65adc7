/-! ===== class and reference side by side ===== -/
def cutS (s : Nat → Nat → Bool) (h : Hp) : Hp := (fun i j => bif s i j then h.1 i j else 0, 0)
theorem agS {R : Hp → Prop} (s : Nat → Nat → Bool) (hR1 : ∀ h, R h → R (cutS s h)) (hR2 : ∀ h, R (cutS s h) → R h) {h h' : Hp} (a : R h) (e : ∀ i j, s i j = true → h'.1 i j = h.1 i j) : R h' := by
  have hc : cutS s h' = cutS s h := by
    unfold cutS
    refine Prod.ext ?_ rfl
    funext i j
    show (bif s i j then h'.1 i j else 0) = (bif s i j then h.1 i j else 0)
    cases hs : s i j with
    | false => rfl
    | true => exact e i j hs
  exact hR2 _ (by rw [hc]; exact hR1 _ a)
theorem CSt.ag {K : KF} {h h' : Hp} (a : CSt K h) (e : ∀ i j, i = 2 ∨ (42 ≤ i ∧ i ≤ 44) → h'.1 i j = h.1 i j) : CSt K h' := agS (R := CSt K) (fun i _ => Nat.beq i 2 || (Nat.ble 42 i && Nat.ble i 44)) (fun _ a => a) (fun _ a => a) a (fun i j hs => e i j (by simp at hs; omega))
theorem CN3.ag {K : KF} {A : AS} {q3 q4 : Nat → Int32} {F : Nat} {h h' : Hp} (a : CN3 K A q3 q4 F h) (e : ∀ i j, i = 3 ∨ (45 ≤ i ∧ i ≤ 50) → h'.1 i j = h.1 i j) : CN3 K A q3 q4 F h' := agS (R := CN3 K A q3 q4 F) (fun i _ => Nat.beq i 3 || (Nat.ble 45 i && Nat.ble i 50)) (fun _ a => a) (fun _ a => a) a (fun i j hs => e i j (by simp at hs; omega))
theorem CN4.ag {K : KF} {A : AS} {q3 q4 : Nat → Int32} {F : Nat} {h h' : Hp} (a : CN4 K A q3 q4 F h) (e : ∀ i j, i = 4 ∨ (51 ≤ i ∧ i ≤ 56) → h'.1 i j = h.1 i j) : CN4 K A q3 q4 F h' := agS (R := CN4 K A q3 q4 F) (fun i _ => Nat.beq i 4 || (Nat.ble 51 i && Nat.ble i 56)) (fun _ a => a) (fun _ a => a) a (fun i j hs => e i j (by simp at hs; omega))
theorem CH6.ag {H : HD} {h h' : Hp} (a : CH6 H h) (e : ∀ i j, i = 6 ∨ (63 ≤ i ∧ i ≤ 67) → h'.1 i j = h.1 i j) : CH6 H h' := agS (R := CH6 H) (fun i _ => Nat.beq i 6 || (Nat.ble 63 i && Nat.ble i 67)) (fun _ a => a) (fun _ a => a) a (fun i j hs => e i j (by simp at hs; omega))
theorem CH7.ag {H : HD} {h h' : Hp} (a : CH7 H h) (e : ∀ i j, i = 7 ∨ (68 ≤ i ∧ i ≤ 72) → h'.1 i j = h.1 i j) : CH7 H h' := agS (R := CH7 H) (fun i _ => Nat.beq i 7 || (Nat.ble 68 i && Nat.ble i 72)) (fun _ a => a) (fun _ a => a) a (fun i j hs => e i j (by simp at hs; omega))
theorem CP.ag {p : Nat} {pg : Nat → Int32} {h h' : Hp} (a : CP p pg h) (e : ∀ i j, i = 1 ∨ i = 41 → h'.1 i j = h.1 i j) : CP p pg h' := agS (R := CP p pg) (fun i _ => Nat.beq i 1 || Nat.beq i 41) (fun _ a => a) (fun _ a => a) a (fun i j hs => e i j (by simp at hs; omega))
theorem RN.ag {K : KF} {A : AS} {q3 q4 : Nat → Int32} {F : Nat} {h h' : Hp} (a : RN K A q3 q4 F h) (e : ∀ i j, i = 76 ∨ i = 77 ∨ (i = 73 ∧ ((7 ≤ j ∧ j ≤ 11) ∨ j = 14)) → h'.1 i j = h.1 i j) : RN K A q3 q4 F h' := agS (R := RN K A q3 q4 F) (fun i j => Nat.beq i 76 || Nat.beq i 77 || (Nat.beq i 73 && ((Nat.ble 7 j && Nat.ble j 11) || Nat.beq j 14))) (fun _ a => a) (fun _ a => a) a (fun i j hs => e i j (by simp at hs; omega))
theorem RH.ag {H : HD} {h h' : Hp} (a : RH 84 23 H h) (e : ∀ i j, i = 84 ∨ (i = 73 ∧ j = 23) → h'.1 i j = h.1 i j) : RH 84 23 H h' := agS (R := RH 84 23 H) (fun i j => Nat.beq i 84 || (Nat.beq i 73 && Nat.beq j 23)) (fun _ a => a) (fun _ a => a) a (fun i j hs => e i j (by simp at hs; omega))
theorem RP.ag {p : Nat} {pg : Nat → Int32} {h h' : Hp} (a : RP p pg h) (e : ∀ i j, i = 74 ∨ (i = 73 ∧ j = 1) → h'.1 i j = h.1 i j) : RP p pg h' := agS (R := RP p pg) (fun i j => Nat.beq i 74 || (Nat.beq i 73 && Nat.beq j 1)) (fun _ a => a) (fun _ a => a) a (fun i j hs => e i j (by simp at hs; omega))
theorem RK.ag {K : KF} {A : AS} {q3 q4 : Nat → Int32} {F : Nat} {H : HD} {h h' : Hp} (a : RK K A q3 q4 F H h) (e : ∀ i j, (85 ≤ i ∧ i ≤ 87) ∨ (i = 73 ∧ 27 ≤ j ∧ j ≤ 30) → h'.1 i j = h.1 i j) : RK K A q3 q4 F H h' := agS (R := RK K A q3 q4 F H) (fun i j => (Nat.ble 85 i && Nat.ble i 87) || (Nat.beq i 73 && (Nat.ble 27 j && Nat.ble j 30))) (fun _ a => a) (fun _ a => a) a (fun i j hs => e i j (by simp at hs; omega))
def CI (K : KF) (A : AS) (q3 q4 : Nat → Int32) (F : Nat) (H : HD) (p : Nat) (pg : Nat → Int32) (c : Nat) (h : Hp) : Prop := CSt K h ∧ CN3 K A q3 q4 F h ∧ CH6 H h ∧ CP p pg h ∧ h.1 0 9 = nI c
def RI (K : KF) (A : AS) (q3 q4 : Nat → Int32) (F : Nat) (H : HD) (p : Nat) (pg : Nat → Int32) (c : Nat) (h : Hp) : Prop := RN K A q3 q4 F h ∧ RH 84 23 H h ∧ RP p pg h ∧ h.1 73 12 = nI c
def XI (K : KF) (H : HD) (p : Nat) (pg : Nat → Int32) (c N : Nat) : Prop := (∀ i, i < dM H → dL H i < kL K) ∧ (∀ j, j < p → ltOk (pg j) = true) ∧ c ≤ N
/-- the image, if one is kept -/
def Kp (c : Nat) (h : Hp) : Prop := (h.1 73 26 = -1 ∨ ∃ d, d ≤ c ∧ h.1 73 26 = nI d) ∧ ((h.1 0 8 = 0 ∧ ¬ h.1 73 26 = h.1 73 12) ∨ (¬ h.1 0 8 = 0 ∧ h.1 73 26 = h.1 73 12 ∧ ∃ KK A q3 q4 F H, CSt KK h ∧ CN4 KK A q3 q4 F h ∧ CH7 H h ∧ RK KK A q3 q4 F H h ∧ ∀ i, i < dM H → dL H i < kL KK))
def Inv (N : Nat) (h : Hp) : Prop := ∃ K A q3 q4 F H p pg c, CI K A q3 q4 F H p pg c h ∧ RI K A q3 q4 F H p pg c h ∧ XI K H p pg c N ∧ Kp c h
theorem Kp.ag {c : Nat} {h h' : Hp} (a : Kp c h) (e : ∀ i j, i = 2 ∨ (42 ≤ i ∧ i ≤ 44) ∨ i = 4 ∨ (51 ≤ i ∧ i ≤ 56) ∨ i = 7 ∨ (68 ≤ i ∧ i ≤ 72) ∨ (85 ≤ i ∧ i ≤ 87) ∨ (i = 73 ∧ ((26 ≤ j ∧ j ≤ 30) ∨ j = 12)) ∨ (i = 0 ∧ j = 8) → h'.1 i j = h.1 i j) : Kp c h' := by
  obtain ⟨a1, a2⟩ := a
  have e1 := e 73 26 (by omega)
  have e2 := e 73 12 (by omega)
  have e3 := e 0 8 (by omega)
  refine ⟨by rw [e1]; exact a1, ?_⟩
  rw [e1, e2, e3]
  rcases a2 with a2 | ⟨a2, a3, KK, A, q3, q4, F, H, b1, b2, b3, b4, b5⟩
  · exact Or.inl a2
  · exact Or.inr ⟨a2, a3, KK, A, q3, q4, F, H, b1.ag (fun i j hs => e i j (by omega)), b2.ag (fun i j hs => e i j (by omega)), b3.ag (fun i j hs => e i j (by omega)), b4.ag (fun i j hs => e i j (by omega)), b5⟩
/-- one call of each, the same answer -/
def Pr (mC mM : MD) (as : List Value) (v : Value) (h : Hp) (N : Nat) : Prop := ∃ P : PT, Cl 12 mC (.ref 0 :: as) h P ∧ ∀ r h1, P r h1 → r = some v ∧ ∃ P' : PT, Cl 12 mM (.ref 73 :: as) h1 P' ∧ ∀ r' h2, P' r' h2 → r' = some v ∧ Inv N h2
