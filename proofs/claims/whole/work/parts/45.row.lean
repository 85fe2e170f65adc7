/-! ===== Row's constructor ===== -/
theorem di_Row_0 : decode md_Row_init.2.1 0 = .ok (.aload_n 0, 1) := by decide +kernel
theorem di_Row_1 : decode md_Row_init.2.1 1 = .ok (.invokespecial 1, 3) := by decide +kernel
theorem di_Row_4 : decode md_Row_init.2.1 4 = .ok (.aload_n 0, 1) := by decide +kernel
theorem di_Row_5 : decode md_Row_init.2.1 5 = .ok (.iconst 0, 1) := by decide +kernel
theorem di_Row_6 : decode md_Row_init.2.1 6 = .ok (.iload_n 1, 1) := by decide +kernel
theorem di_Row_7 : decode md_Row_init.2.1 7 = .ok (.invokestatic 7, 3) := by decide +kernel
theorem di_Row_10 : decode md_Row_init.2.1 10 = .ok (.newarray .int, 2) := by decide +kernel
theorem di_Row_12 : decode md_Row_init.2.1 12 = .ok (.putfield 13, 3) := by decide +kernel
theorem di_Row_15 : decode md_Row_init.2.1 15 = .ok (.return_, 1) := by decide +kernel
def wRow (cI : ClassId) (n : Nat) (f : Nat → Nat) (h : Nat) : va_W := [(h, .inr (4, [.ref (f 0)])), (f 0, .inl (cI, n, .inl (fun _ => 0)))]
def rmRow (n : Nat) : Room := { frames := 1, cells := 1, slots := n, locals := 20 }
theorem ct_Row_init (D : va_G) (cI : ClassId) (v : Int32) (n : Nat) (h1 : (if 0 < v then v else 0) = v) (h2 : ¬ v < 0) (h3 : v.toNatClampNeg = n) (h4 : n * componentBytes .int ≤ 536870912) : CtN (rmRow n) md_Row_init [.int v] D cI 4 [.null] 1 n (wRow cI n) := by
  refine CtN_of 4 rfl rfl rfl (fun _ => Nat.le_of_ble_eq_true rfl) ?_
  intro p l e s m args below meth c h0 A ls Q hx hb hml hown hin hts hNW hK hP hD hA hl fin
  have hS : va_S A s.heap s.heap [] := va_S.rf
  have hl : lv_has ls 2 [(0, .ref h0), (1, .int v)] := hl
  obtain ⟨-, x1, x2, x3, x4⟩ := mTo4_7
  refine lv_aload_n hx hb di_Row_0 rfl (lv_at hl 0 rfl) ?_
  refine W.objInit hx hb hown (hts _ (gw1 35 rfl rfl)) (hts _ (gw1 22 rfl rfl)) (hts _ (gw1 23 rfl rfl)) rfl (by rw [hml]; exact hl.1) rfl di_Row_1 (Nat.le_of_ble_eq_true rfl) (Nat.le_of_ble_eq_true rfl) ?_
  refine W.eq (g2 := F0 m 4 ls []) rfl ?_
  refine lv_aload_n hx hb di_Row_4 rfl (lv_at hl 0 rfl) ?_
  refine lv_iconst (v := 0) hx hb di_Row_5 (by decide) ?_
  refine lv_iload_n hx hb di_Row_6 rfl (lv_at hl 1 rfl) ?_
  refine va_mmax hx hb (hml.trans hl.1.symm) hown (hts _ x1) (hts _ x2) (hts _ x3) (hts _ x4) (Nat.le_refl 1) (Nat.le_of_ble_eq_true rfl) (Nat.zero_le _) (Nat.zero_le _) di_Row_7 ?_
  refine lv_topi (fun z ez => ?_)
  have ez : z = v := ez.trans h1
  subst ez
  refine va_newa (ty := .int) (a0 := (n, .inl (fun _ => 0))) (N' := n) hx hb (hts _ (gw1 43 rfl rfl)) rfl hK hP hD hS hA (fun cA => rfl) h2 h3 h4 (Nat.le_refl 1) (Nat.le_of_eq (Nat.zero_add n)) di_Row_10 (fun q cA H hK1 hP hD hS => ?_)
  have hc : cA = cI := Option.some.inj ((hK1.2 1 _ rfl).2.symm.trans (hK1.2 0 _ rfl).2)
  rw [hc] at hP hD
  have hP : va_P D cls [(h0, .inr (4, [.null])), (q, .inl (cI, n, .inl (fun _ => 0)))] H := hP
  have hD : va_D A [(h0, .inr (4, [.null])), (q, .inl (cI, n, .inl (fun _ => 0)))] := hD
  refine W.widen (k := 1) (n := n) (Nat.le_refl 1) (Nat.le_of_eq (Nat.zero_add n)) ?_
  refine va_putF (D := D) (ci := 4) (v := .ref q) (ty := .array .int) (C := "GoingDark$Row") (T := Tf4) (N := 1) hx hb hts lay4 tf4 tfo4 nf4 hown hK hP hD hS 0 rfl rfl 0 (by decide) (hts _ (gw1 39 rfl rfl)) (fun _ h9 => h9) rfl hin rfl (by decide +kernel) rfl rfl (Nat.le_of_ble_eq_true rfl) di_Row_12 (fun H locs hP hD hS => ?_)
  exact fin 15 H locs ls (fun _ => q) di_Row_15 hP hD hS
