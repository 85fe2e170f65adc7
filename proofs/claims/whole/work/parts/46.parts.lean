/-! ===== the constructors of the parts ===== -/
def adr (l : List Nat) (k : Nat) : Nat := match nth l k with
  | some x => x
  | none => 0
theorem mdN_Page : Cond.code md_Page_init.1 md_Page_init.2.1 md_Page_init.2.2.1 none ∈ GW ∧ Cond.initialized md_Page_init.1.cls ∈ GW ∧ Cond.instanceMethod md_Page_init.1 ∈ GW ∧ md_Page_init.1.name = "<init>" ∧ md_Page_init.1.cls ≠ "java/lang/invoke/MethodHandle" ∧ md_Page_init.1.cls ≠ "java/lang/invoke/VarHandle" ∧ (parseMethodDescriptor md_Page_init.1.desc).map (fun d => d.parameters.length) = some 0 := ⟨gw1 28 rfl rfl, gw1 2 rfl rfl, gw1 27 rfl rfl, rfl, by decide +kernel, by decide +kernel, by decide +kernel⟩
theorem mdN_Strait : Cond.code md_Strait_init.1 md_Strait_init.2.1 md_Strait_init.2.2.1 none ∈ GW ∧ Cond.initialized md_Strait_init.1.cls ∈ GW ∧ Cond.instanceMethod md_Strait_init.1 ∈ GW ∧ md_Strait_init.1.name = "<init>" ∧ md_Strait_init.1.cls ≠ "java/lang/invoke/MethodHandle" ∧ md_Strait_init.1.cls ≠ "java/lang/invoke/VarHandle" ∧ (parseMethodDescriptor md_Strait_init.1.desc).map (fun d => d.parameters.length) = some 0 := ⟨gw1 59 rfl rfl, gw1 5 rfl rfl, gw1 58 rfl rfl, rfl, by decide +kernel, by decide +kernel, by decide +kernel⟩
theorem mdN_Draws : Cond.code md_Draws_init.1 md_Draws_init.2.1 md_Draws_init.2.2.1 none ∈ GW ∧ Cond.initialized md_Draws_init.1.cls ∈ GW ∧ Cond.instanceMethod md_Draws_init.1 ∈ GW ∧ md_Draws_init.1.name = "<init>" ∧ md_Draws_init.1.cls ≠ "java/lang/invoke/MethodHandle" ∧ md_Draws_init.1.cls ≠ "java/lang/invoke/VarHandle" ∧ (parseMethodDescriptor md_Draws_init.1.desc).map (fun d => d.parameters.length) = some 0 := ⟨gw1 176 rfl rfl, gw1 8 rfl rfl, gw1 175 rfl rfl, rfl, by decide +kernel, by decide +kernel, by decide +kernel⟩
theorem mdN_Night : Cond.code md_Night_init.1 md_Night_init.2.1 md_Night_init.2.2.1 none ∈ GW ∧ Cond.initialized md_Night_init.1.cls ∈ GW ∧ Cond.instanceMethod md_Night_init.1 ∈ GW ∧ md_Night_init.1.name = "<init>" ∧ md_Night_init.1.cls ≠ "java/lang/invoke/MethodHandle" ∧ md_Night_init.1.cls ≠ "java/lang/invoke/VarHandle" ∧ (parseMethodDescriptor md_Night_init.1.desc).map (fun d => d.parameters.length) = some 1 := ⟨gw1 97 rfl rfl, gw1 6 rfl rfl, gw1 96 rfl rfl, rfl, by decide +kernel, by decide +kernel, by decide +kernel⟩
theorem mdN_Heard : Cond.code md_Heard_init.1 md_Heard_init.2.1 md_Heard_init.2.2.1 none ∈ GW ∧ Cond.initialized md_Heard_init.1.cls ∈ GW ∧ Cond.instanceMethod md_Heard_init.1 ∈ GW ∧ md_Heard_init.1.name = "<init>" ∧ md_Heard_init.1.cls ≠ "java/lang/invoke/MethodHandle" ∧ md_Heard_init.1.cls ≠ "java/lang/invoke/VarHandle" ∧ (parseMethodDescriptor md_Heard_init.1.desc).map (fun d => d.parameters.length) = some 1 := ⟨gw1 145 rfl rfl, gw1 7 rfl rfl, gw1 144 rfl rfl, rfl, by decide +kernel, by decide +kernel, by decide +kernel⟩
theorem mdN_Row : Cond.code md_Row_init.1 md_Row_init.2.1 md_Row_init.2.2.1 none ∈ GW ∧ Cond.initialized md_Row_init.1.cls ∈ GW ∧ Cond.instanceMethod md_Row_init.1 ∈ GW ∧ md_Row_init.1.name = "<init>" ∧ md_Row_init.1.cls ≠ "java/lang/invoke/MethodHandle" ∧ md_Row_init.1.cls ≠ "java/lang/invoke/VarHandle" ∧ (parseMethodDescriptor md_Row_init.1.desc).map (fun d => d.parameters.length) = some 1 := ⟨gw1 34 rfl rfl, gw1 3 rfl rfl, gw1 33 rfl rfl, rfl, by decide +kernel, by decide +kernel, by decide +kernel⟩
theorem mdN_GD : Cond.code md_GD_init.1 md_GD_init.2.1 md_GD_init.2.2.1 none ∈ GW ∧ Cond.initialized md_GD_init.1.cls ∈ GW ∧ Cond.instanceMethod md_GD_init.1 ∈ GW ∧ md_GD_init.1.name = "<init>" ∧ md_GD_init.1.cls ≠ "java/lang/invoke/MethodHandle" ∧ md_GD_init.1.cls ≠ "java/lang/invoke/VarHandle" ∧ (parseMethodDescriptor md_GD_init.1.desc).map (fun d => d.parameters.length) = some 0 := ⟨gw1 20 rfl rfl, gw1 1 rfl rfl, gw1 19 rfl rfl, rfl, by decide +kernel, by decide +kernel, by decide +kernel⟩
theorem mdN_M : Cond.code md_M_init.1 md_M_init.2.1 md_M_init.2.2.1 none ∈ GW ∧ Cond.initialized md_M_init.1.cls ∈ GW ∧ Cond.instanceMethod md_M_init.1 ∈ GW ∧ md_M_init.1.name = "<init>" ∧ md_M_init.1.cls ≠ "java/lang/invoke/MethodHandle" ∧ md_M_init.1.cls ≠ "java/lang/invoke/VarHandle" ∧ (parseMethodDescriptor md_M_init.1.desc).map (fun d => d.parameters.length) = some 0 := ⟨gw3 133 rfl rfl, gw1 9 rfl rfl, gw3 132 rfl rfl, rfl, by decide +kernel, by decide +kernel, by decide +kernel⟩
theorem ct_Row_3 (D : va_G) (cI : ClassId) : CtN (rmRow 3) md_Row_init [.int 3] D cI 4 [.null] 1 3 (wRow cI 3) := ct_Row_init D cI 3 3 (by decide +kernel) (by decide +kernel) (by decide +kernel) (by decide +kernel)
theorem ct_Row_5 (D : va_G) (cI : ClassId) : CtN (rmRow 5) md_Row_init [.int 5] D cI 4 [.null] 1 5 (wRow cI 5) := ct_Row_init D cI 5 5 (by decide +kernel) (by decide +kernel) (by decide +kernel) (by decide +kernel)
theorem ct_Row_8 (D : va_G) (cI : ClassId) : CtN (rmRow 8) md_Row_init [.int 8] D cI 4 [.null] 1 8 (wRow cI 8) := ct_Row_init D cI 8 8 (by decide +kernel) (by decide +kernel) (by decide +kernel) (by decide +kernel)
theorem ct_Row_10 (D : va_G) (cI : ClassId) : CtN (rmRow 10) md_Row_init [.int 10] D cI 4 [.null] 1 10 (wRow cI 10) := ct_Row_init D cI 10 10 (by decide +kernel) (by decide +kernel) (by decide +kernel) (by decide +kernel)
theorem ct_Row_18 (D : va_G) (cI : ClassId) : CtN (rmRow 18) md_Row_init [.int 18] D cI 4 [.null] 1 18 (wRow cI 18) := ct_Row_init D cI 18 18 (by decide +kernel) (by decide +kernel) (by decide +kernel) (by decide +kernel)
theorem di_Page_0 : decode md_Page_init.2.1 0 = .ok (.aload_n 0, 1) := by decide +kernel
theorem di_Page_1 : decode md_Page_init.2.1 1 = .ok (.invokespecial 3, 3) := by decide +kernel
theorem di_Page_4 : decode md_Page_init.2.1 4 = .ok (.aload_n 0, 1) := by decide +kernel
theorem di_Page_5 : decode md_Page_init.2.1 5 = .ok (.new 9, 3) := by decide +kernel
theorem di_Page_8 : decode md_Page_init.2.1 8 = .ok (.dup, 1) := by decide +kernel
theorem di_Page_9 : decode md_Page_init.2.1 9 = .ok (.bipush 18, 2) := by decide +kernel
theorem di_Page_11 : decode md_Page_init.2.1 11 = .ok (.invokespecial 11, 3) := by decide +kernel
theorem di_Page_14 : decode md_Page_init.2.1 14 = .ok (.putfield 14, 3) := by decide +kernel
theorem di_Page_17 : decode md_Page_init.2.1 17 = .ok (.aload_n 0, 1) := by decide +kernel
theorem di_Page_18 : decode md_Page_init.2.1 18 = .ok (.iconst 0, 1) := by decide +kernel
theorem di_Page_19 : decode md_Page_init.2.1 19 = .ok (.putfield 20, 3) := by decide +kernel
theorem di_Page_22 : decode md_Page_init.2.1 22 = .ok (.return_, 1) := by decide +kernel
def rmPage : Room := { frames := 2, cells := 2, slots := 19, locals := 45 }
def wPage (cI : ClassId) (f : Nat → Nat) (h : Nat) : va_W := [(h, .inr (3, [.ref (f 0), .int 0])), (f 0, .inr (4, [.ref (f 1)])), (f 1, .inl (cI, 18, .inl (fun _ => 0)))]
set_option maxHeartbeats 4000000 in
set_option maxRecDepth 100000 in
theorem ct_Page_init (D : va_G) (cI : ClassId) : CtN rmPage md_Page_init [] D cI 3 [.null, .int 0] 2 19 (wPage cI) := by
  refine CtN_of 3 rfl rfl rfl (fun _ => Nat.le_of_ble_eq_true rfl) ?_
  intro p l e s m args below meth c h0 A ls Q hx hb hml hown hin hts hNW hK hP hD hA hl fin
  have hS : va_S A s.heap s.heap [] := va_S.rf
  have hl : lv_has ls 1 [(0, .ref h0)] := hl
  have hP : va_P D cls ((h0, .inr (3, [.null, .int 0])) :: ([] : va_W)) s.heap := hP
  have hD : va_D A ((h0, .inr (3, [.null, .int 0])) :: ([] : va_W)) := hD
  refine lv_aload_n hx hb di_Page_0 rfl (lv_at hl 0 rfl) ?_
  refine W.objInit hx hb hown (hts _ (gw1 29 rfl rfl)) (hts _ (gw1 22 rfl rfl)) (hts _ (gw1 23 rfl rfl)) rfl (by rw [hml]; exact hl.1) rfl di_Page_1 (Nat.le_of_ble_eq_true rfl) (Nat.le_of_ble_eq_true rfl) ?_
  refine W.eq (g2 := F0 m 4 ls []) rfl ?_
  refine lv_aload_n hx hb di_Page_4 rfl (lv_at hl 0 rfl) ?_
  refine va_new (ci := 4) (fs := [.null]) (C := "GoingDark$Row") (T := Tf4) (N := 1) hx hb hts lay4 tf4 tfo4 hown (hts _ (gw1 30 rfl rfl)) (hts _ (gw1 31 rfl rfl)) (hts _ (gw1 3 rfl rfl)) hK hP hD hS hA rfl (fun j hj => by rcases (show j = 0 by omega) with rfl; rfl) (Nat.le_of_ble_eq_true rfl) (Nat.le_of_ble_eq_true rfl) di_Page_5 (fun q1 H hP hD hS => ?_)
  refine W.widen (k := 1) (n := 1) (Nat.le_of_ble_eq_true rfl) (Nat.le_of_ble_eq_true rfl) ?_
  refine lv_dup hx hb di_Page_8 rfl ?_
  refine lv_bipush (v := 18) hx hb di_Page_9 (by decide) ?_
  refine mk_call (q := q1) (rest := [.ref q1, .ref h0]) [.int 18] hx hb hml hown hts hNW hK hP hD hS hA (ct_Row_18 D cI) mdN_Row rfl (gw1 32 rfl rfl) rfl rfl ⟨Nat.le_of_ble_eq_true rfl, Nat.le_of_ble_eq_true rfl⟩ hl.1 (Nat.le_of_ble_eq_true rfl) ⟨Nat.le_of_ble_eq_true rfl, Nat.le_of_ble_eq_true rfl⟩ di_Page_11 (fun f1 H locs hP hD hS => ?_)
  refine W.widen (k := 2) (n := 19) (Nat.le_of_ble_eq_true rfl) (Nat.le_of_ble_eq_true rfl) ?_
  have hP : va_P D cls ((h0, .inr (3, [.null, .int 0])) :: (([] : va_W) ++ wRow cI 18 f1 q1)) H := hP
  have hD : va_D A ((h0, .inr (3, [.null, .int 0])) :: (([] : va_W) ++ wRow cI 18 f1 q1)) := hD
  refine va_putF (D := D) (ci := 3) (v := .ref q1) (ty := (.object "GoingDark$Row")) (C := "GoingDark$Page") (T := Tf3) (N := 2) hx hb hts lay3 tf3 tfo3 nf3 hown hK hP hD hS 0 rfl rfl 0 (by decide) (hts _ (gw1 44 rfl rfl)) (fun _ h9 => h9) rfl hin rfl (by decide +kernel) rfl rfl (Nat.le_of_ble_eq_true rfl) di_Page_14 (fun H locs hP hD hS => ?_)
  have hP : va_P D cls ((h0, .inr (3, [.ref q1, .int 0])) :: (([] : va_W) ++ wRow cI 18 f1 q1)) H := hP
  have hD : va_D A ((h0, .inr (3, [.ref q1, .int 0])) :: (([] : va_W) ++ wRow cI 18 f1 q1)) := hD
  refine lv_aload_n hx hb di_Page_17 rfl (lv_at hl 0 rfl) ?_
  refine lv_iconst (v := 0) hx hb di_Page_18 (by decide) ?_
  refine va_put (D := D) (ci := 3) (v := .int 0) (ty := .int) (C := "GoingDark$Page") (T := Tf3) (N := 2) hx hb hts lay3 tf3 tfo3 nf3 hown hK hP hD hS 0 rfl rfl 1 (by decide) (hts _ (gw1 47 rfl rfl)) (fun _ h9 => h9) rfl (by decide +kernel) rfl rfl (Nat.le_of_ble_eq_true rfl) di_Page_19 (fun H locs hP hD hS => ?_)
  have hP : va_P D cls ((h0, .inr (3, [.ref q1, .int 0])) :: (([] : va_W) ++ wRow cI 18 f1 q1)) H := hP
  have hD : va_D A ((h0, .inr (3, [.ref q1, .int 0])) :: (([] : va_W) ++ wRow cI 18 f1 q1)) := hD
  exact fin 22 H locs ls (adr [q1, f1 0]) di_Page_22 hP hD hS
theorem di_Strait_0 : decode md_Strait_init.2.1 0 = .ok (.aload_n 0, 1) := by decide +kernel
theorem di_Strait_1 : decode md_Strait_init.2.1 1 = .ok (.invokespecial 3, 3) := by decide +kernel
theorem di_Strait_4 : decode md_Strait_init.2.1 4 = .ok (.aload_n 0, 1) := by decide +kernel
theorem di_Strait_5 : decode md_Strait_init.2.1 5 = .ok (.new 9, 3) := by decide +kernel
theorem di_Strait_8 : decode md_Strait_init.2.1 8 = .ok (.dup, 1) := by decide +kernel
theorem di_Strait_9 : decode md_Strait_init.2.1 9 = .ok (.iconst 5, 1) := by decide +kernel
theorem di_Strait_10 : decode md_Strait_init.2.1 10 = .ok (.invokespecial 11, 3) := by decide +kernel
theorem di_Strait_13 : decode md_Strait_init.2.1 13 = .ok (.putfield 14, 3) := by decide +kernel
theorem di_Strait_16 : decode md_Strait_init.2.1 16 = .ok (.aload_n 0, 1) := by decide +kernel
theorem di_Strait_17 : decode md_Strait_init.2.1 17 = .ok (.new 9, 3) := by decide +kernel
theorem di_Strait_20 : decode md_Strait_init.2.1 20 = .ok (.dup, 1) := by decide +kernel
theorem di_Strait_21 : decode md_Strait_init.2.1 21 = .ok (.iconst 5, 1) := by decide +kernel
theorem di_Strait_22 : decode md_Strait_init.2.1 22 = .ok (.invokespecial 11, 3) := by decide +kernel
theorem di_Strait_25 : decode md_Strait_init.2.1 25 = .ok (.putfield 20, 3) := by decide +kernel
theorem di_Strait_28 : decode md_Strait_init.2.1 28 = .ok (.aload_n 0, 1) := by decide +kernel
theorem di_Strait_29 : decode md_Strait_init.2.1 29 = .ok (.new 9, 3) := by decide +kernel
theorem di_Strait_32 : decode md_Strait_init.2.1 32 = .ok (.dup, 1) := by decide +kernel
theorem di_Strait_33 : decode md_Strait_init.2.1 33 = .ok (.bipush 10, 2) := by decide +kernel
theorem di_Strait_35 : decode md_Strait_init.2.1 35 = .ok (.invokespecial 11, 3) := by decide +kernel
theorem di_Strait_38 : decode md_Strait_init.2.1 38 = .ok (.putfield 23, 3) := by decide +kernel
theorem di_Strait_41 : decode md_Strait_init.2.1 41 = .ok (.aload_n 0, 1) := by decide +kernel
theorem di_Strait_42 : decode md_Strait_init.2.1 42 = .ok (.iconst 0, 1) := by decide +kernel
theorem di_Strait_43 : decode md_Strait_init.2.1 43 = .ok (.putfield 26, 3) := by decide +kernel
theorem di_Strait_46 : decode md_Strait_init.2.1 46 = .ok (.aload_n 0, 1) := by decide +kernel
theorem di_Strait_47 : decode md_Strait_init.2.1 47 = .ok (.iconst 0, 1) := by decide +kernel
theorem di_Strait_48 : decode md_Strait_init.2.1 48 = .ok (.putfield 30, 3) := by decide +kernel
theorem di_Strait_51 : decode md_Strait_init.2.1 51 = .ok (.aload_n 0, 1) := by decide +kernel
theorem di_Strait_52 : decode md_Strait_init.2.1 52 = .ok (.iconst 0, 1) := by decide +kernel
theorem di_Strait_53 : decode md_Strait_init.2.1 53 = .ok (.putfield 33, 3) := by decide +kernel
theorem di_Strait_56 : decode md_Strait_init.2.1 56 = .ok (.return_, 1) := by decide +kernel
def rmStrait : Room := { frames := 2, cells := 6, slots := 23, locals := 45 }
def wStrait (cI : ClassId) (f : Nat → Nat) (h : Nat) : va_W := [(h, .inr (5, [.ref (f 0), .ref (f 1), .ref (f 2), .int 0, .int 0, .int 0])), (f 0, .inr (4, [.ref (f 3)])), (f 3, .inl (cI, 5, .inl (fun _ => 0))), (f 1, .inr (4, [.ref (f 4)])), (f 4, .inl (cI, 5, .inl (fun _ => 0))), (f 2, .inr (4, [.ref (f 5)])), (f 5, .inl (cI, 10, .inl (fun _ => 0)))]
set_option maxHeartbeats 4000000 in
set_option maxRecDepth 100000 in
theorem ct_Strait_init (D : va_G) (cI : ClassId) : CtN rmStrait md_Strait_init [] D cI 5 [.null, .null, .null, .int 0, .int 0, .int 0] 6 23 (wStrait cI) := by
  refine CtN_of 5 rfl rfl rfl (fun _ => Nat.le_of_ble_eq_true rfl) ?_
  intro p l e s m args below meth c h0 A ls Q hx hb hml hown hin hts hNW hK hP hD hA hl fin
  have hS : va_S A s.heap s.heap [] := va_S.rf
  have hl : lv_has ls 1 [(0, .ref h0)] := hl
  have hP : va_P D cls ((h0, .inr (5, [.null, .null, .null, .int 0, .int 0, .int 0])) :: ([] : va_W)) s.heap := hP
  have hD : va_D A ((h0, .inr (5, [.null, .null, .null, .int 0, .int 0, .int 0])) :: ([] : va_W)) := hD
  refine lv_aload_n hx hb di_Strait_0 rfl (lv_at hl 0 rfl) ?_
  refine W.objInit hx hb hown (hts _ (gw1 60 rfl rfl)) (hts _ (gw1 22 rfl rfl)) (hts _ (gw1 23 rfl rfl)) rfl (by rw [hml]; exact hl.1) rfl di_Strait_1 (Nat.le_of_ble_eq_true rfl) (Nat.le_of_ble_eq_true rfl) ?_
  refine W.eq (g2 := F0 m 4 ls []) rfl ?_
  refine lv_aload_n hx hb di_Strait_4 rfl (lv_at hl 0 rfl) ?_
  refine va_new (ci := 4) (fs := [.null]) (C := "GoingDark$Row") (T := Tf4) (N := 1) hx hb hts lay4 tf4 tfo4 hown (hts _ (gw1 61 rfl rfl)) (hts _ (gw1 31 rfl rfl)) (hts _ (gw1 3 rfl rfl)) hK hP hD hS hA rfl (fun j hj => by rcases (show j = 0 by omega) with rfl; rfl) (Nat.le_of_ble_eq_true rfl) (Nat.le_of_ble_eq_true rfl) di_Strait_5 (fun q1 H hP hD hS => ?_)
  refine W.widen (k := 1) (n := 1) (Nat.le_of_ble_eq_true rfl) (Nat.le_of_ble_eq_true rfl) ?_
  refine lv_dup hx hb di_Strait_8 rfl ?_
  refine lv_iconst (v := 5) hx hb di_Strait_9 (by decide) ?_
  refine mk_call (q := q1) (rest := [.ref q1, .ref h0]) [.int 5] hx hb hml hown hts hNW hK hP hD hS hA (ct_Row_5 D cI) mdN_Row rfl (gw1 62 rfl rfl) rfl rfl ⟨Nat.le_of_ble_eq_true rfl, Nat.le_of_ble_eq_true rfl⟩ hl.1 (Nat.le_of_ble_eq_true rfl) ⟨Nat.le_of_ble_eq_true rfl, Nat.le_of_ble_eq_true rfl⟩ di_Strait_10 (fun f1 H locs hP hD hS => ?_)
  refine W.widen (k := 2) (n := 6) (Nat.le_of_ble_eq_true rfl) (Nat.le_of_ble_eq_true rfl) ?_
  have hP : va_P D cls ((h0, .inr (5, [.null, .null, .null, .int 0, .int 0, .int 0])) :: (([] : va_W) ++ wRow cI 5 f1 q1)) H := hP
  have hD : va_D A ((h0, .inr (5, [.null, .null, .null, .int 0, .int 0, .int 0])) :: (([] : va_W) ++ wRow cI 5 f1 q1)) := hD
  refine va_putF (D := D) (ci := 5) (v := .ref q1) (ty := (.object "GoingDark$Row")) (C := "GoingDark$Strait") (T := Tf5) (N := 6) hx hb hts lay5 tf5 tfo5 nf5 hown hK hP hD hS 0 rfl rfl 0 (by decide) (hts _ (gw1 63 rfl rfl)) (fun _ h9 => h9) rfl hin rfl (by decide +kernel) rfl rfl (Nat.le_of_ble_eq_true rfl) di_Strait_13 (fun H locs hP hD hS => ?_)
  have hP : va_P D cls ((h0, .inr (5, [.ref q1, .null, .null, .int 0, .int 0, .int 0])) :: (([] : va_W) ++ wRow cI 5 f1 q1)) H := hP
  have hD : va_D A ((h0, .inr (5, [.ref q1, .null, .null, .int 0, .int 0, .int 0])) :: (([] : va_W) ++ wRow cI 5 f1 q1)) := hD
  refine lv_aload_n hx hb di_Strait_16 rfl (lv_at hl 0 rfl) ?_
  refine va_new (ci := 4) (fs := [.null]) (C := "GoingDark$Row") (T := Tf4) (N := 1) hx hb hts lay4 tf4 tfo4 hown (hts _ (gw1 61 rfl rfl)) (hts _ (gw1 31 rfl rfl)) (hts _ (gw1 3 rfl rfl)) hK hP hD hS hA rfl (fun j hj => by rcases (show j = 0 by omega) with rfl; rfl) (Nat.le_of_ble_eq_true rfl) (Nat.le_of_ble_eq_true rfl) di_Strait_17 (fun q2 H hP hD hS => ?_)
  refine W.widen (k := 3) (n := 7) (Nat.le_of_ble_eq_true rfl) (Nat.le_of_ble_eq_true rfl) ?_
  refine lv_dup hx hb di_Strait_20 rfl ?_
  refine lv_iconst (v := 5) hx hb di_Strait_21 (by decide) ?_
  refine mk_call (q := q2) (rest := [.ref q2, .ref h0]) [.int 5] hx hb hml hown hts hNW hK hP hD hS hA (ct_Row_5 D cI) mdN_Row rfl (gw1 62 rfl rfl) rfl rfl ⟨Nat.le_of_ble_eq_true rfl, Nat.le_of_ble_eq_true rfl⟩ hl.1 (Nat.le_of_ble_eq_true rfl) ⟨Nat.le_of_ble_eq_true rfl, Nat.le_of_ble_eq_true rfl⟩ di_Strait_22 (fun f2 H locs hP hD hS => ?_)
  refine W.widen (k := 4) (n := 12) (Nat.le_of_ble_eq_true rfl) (Nat.le_of_ble_eq_true rfl) ?_
  have hP : va_P D cls ((h0, .inr (5, [.ref q1, .null, .null, .int 0, .int 0, .int 0])) :: ((([] : va_W) ++ wRow cI 5 f1 q1) ++ wRow cI 5 f2 q2)) H := hP
  have hD : va_D A ((h0, .inr (5, [.ref q1, .null, .null, .int 0, .int 0, .int 0])) :: ((([] : va_W) ++ wRow cI 5 f1 q1) ++ wRow cI 5 f2 q2)) := hD
  refine va_putF (D := D) (ci := 5) (v := .ref q2) (ty := (.object "GoingDark$Row")) (C := "GoingDark$Strait") (T := Tf5) (N := 6) hx hb hts lay5 tf5 tfo5 nf5 hown hK hP hD hS 0 rfl rfl 1 (by decide) (hts _ (gw1 67 rfl rfl)) (fun _ h9 => h9) rfl hin rfl (by decide +kernel) rfl rfl (Nat.le_of_ble_eq_true rfl) di_Strait_25 (fun H locs hP hD hS => ?_)
  have hP : va_P D cls ((h0, .inr (5, [.ref q1, .ref q2, .null, .int 0, .int 0, .int 0])) :: ((([] : va_W) ++ wRow cI 5 f1 q1) ++ wRow cI 5 f2 q2)) H := hP
  have hD : va_D A ((h0, .inr (5, [.ref q1, .ref q2, .null, .int 0, .int 0, .int 0])) :: ((([] : va_W) ++ wRow cI 5 f1 q1) ++ wRow cI 5 f2 q2)) := hD
  refine lv_aload_n hx hb di_Strait_28 rfl (lv_at hl 0 rfl) ?_
  refine va_new (ci := 4) (fs := [.null]) (C := "GoingDark$Row") (T := Tf4) (N := 1) hx hb hts lay4 tf4 tfo4 hown (hts _ (gw1 61 rfl rfl)) (hts _ (gw1 31 rfl rfl)) (hts _ (gw1 3 rfl rfl)) hK hP hD hS hA rfl (fun j hj => by rcases (show j = 0 by omega) with rfl; rfl) (Nat.le_of_ble_eq_true rfl) (Nat.le_of_ble_eq_true rfl) di_Strait_29 (fun q3 H hP hD hS => ?_)
  refine W.widen (k := 5) (n := 13) (Nat.le_of_ble_eq_true rfl) (Nat.le_of_ble_eq_true rfl) ?_
  refine lv_dup hx hb di_Strait_32 rfl ?_
  refine lv_bipush (v := 10) hx hb di_Strait_33 (by decide) ?_
  refine mk_call (q := q3) (rest := [.ref q3, .ref h0]) [.int 10] hx hb hml hown hts hNW hK hP hD hS hA (ct_Row_10 D cI) mdN_Row rfl (gw1 62 rfl rfl) rfl rfl ⟨Nat.le_of_ble_eq_true rfl, Nat.le_of_ble_eq_true rfl⟩ hl.1 (Nat.le_of_ble_eq_true rfl) ⟨Nat.le_of_ble_eq_true rfl, Nat.le_of_ble_eq_true rfl⟩ di_Strait_35 (fun f3 H locs hP hD hS => ?_)
  refine W.widen (k := 6) (n := 23) (Nat.le_of_ble_eq_true rfl) (Nat.le_of_ble_eq_true rfl) ?_
  have hP : va_P D cls ((h0, .inr (5, [.ref q1, .ref q2, .null, .int 0, .int 0, .int 0])) :: (((([] : va_W) ++ wRow cI 5 f1 q1) ++ wRow cI 5 f2 q2) ++ wRow cI 10 f3 q3)) H := hP
  have hD : va_D A ((h0, .inr (5, [.ref q1, .ref q2, .null, .int 0, .int 0, .int 0])) :: (((([] : va_W) ++ wRow cI 5 f1 q1) ++ wRow cI 5 f2 q2) ++ wRow cI 10 f3 q3)) := hD
  refine va_putF (D := D) (ci := 5) (v := .ref q3) (ty := (.object "GoingDark$Row")) (C := "GoingDark$Strait") (T := Tf5) (N := 6) hx hb hts lay5 tf5 tfo5 nf5 hown hK hP hD hS 0 rfl rfl 2 (by decide) (hts _ (gw1 69 rfl rfl)) (fun _ h9 => h9) rfl hin rfl (by decide +kernel) rfl rfl (Nat.le_of_ble_eq_true rfl) di_Strait_38 (fun H locs hP hD hS => ?_)
  have hP : va_P D cls ((h0, .inr (5, [.ref q1, .ref q2, .ref q3, .int 0, .int 0, .int 0])) :: (((([] : va_W) ++ wRow cI 5 f1 q1) ++ wRow cI 5 f2 q2) ++ wRow cI 10 f3 q3)) H := hP
  have hD : va_D A ((h0, .inr (5, [.ref q1, .ref q2, .ref q3, .int 0, .int 0, .int 0])) :: (((([] : va_W) ++ wRow cI 5 f1 q1) ++ wRow cI 5 f2 q2) ++ wRow cI 10 f3 q3)) := hD
  refine lv_aload_n hx hb di_Strait_41 rfl (lv_at hl 0 rfl) ?_
  refine lv_iconst (v := 0) hx hb di_Strait_42 (by decide) ?_
  refine va_put (D := D) (ci := 5) (v := .int 0) (ty := .int) (C := "GoingDark$Strait") (T := Tf5) (N := 6) hx hb hts lay5 tf5 tfo5 nf5 hown hK hP hD hS 0 rfl rfl 3 (by decide) (hts _ (gw1 72 rfl rfl)) (fun _ h9 => h9) rfl (by decide +kernel) rfl rfl (Nat.le_of_ble_eq_true rfl) di_Strait_43 (fun H locs hP hD hS => ?_)
  have hP : va_P D cls ((h0, .inr (5, [.ref q1, .ref q2, .ref q3, .int 0, .int 0, .int 0])) :: (((([] : va_W) ++ wRow cI 5 f1 q1) ++ wRow cI 5 f2 q2) ++ wRow cI 10 f3 q3)) H := hP
  have hD : va_D A ((h0, .inr (5, [.ref q1, .ref q2, .ref q3, .int 0, .int 0, .int 0])) :: (((([] : va_W) ++ wRow cI 5 f1 q1) ++ wRow cI 5 f2 q2) ++ wRow cI 10 f3 q3)) := hD
  refine lv_aload_n hx hb di_Strait_46 rfl (lv_at hl 0 rfl) ?_
  refine lv_iconst (v := 0) hx hb di_Strait_47 (by decide) ?_
  refine va_put (D := D) (ci := 5) (v := .int 0) (ty := .int) (C := "GoingDark$Strait") (T := Tf5) (N := 6) hx hb hts lay5 tf5 tfo5 nf5 hown hK hP hD hS 0 rfl rfl 4 (by decide) (hts _ (gw1 75 rfl rfl)) (fun _ h9 => h9) rfl (by decide +kernel) rfl rfl (Nat.le_of_ble_eq_true rfl) di_Strait_48 (fun H locs hP hD hS => ?_)
  have hP : va_P D cls ((h0, .inr (5, [.ref q1, .ref q2, .ref q3, .int 0, .int 0, .int 0])) :: (((([] : va_W) ++ wRow cI 5 f1 q1) ++ wRow cI 5 f2 q2) ++ wRow cI 10 f3 q3)) H := hP
  have hD : va_D A ((h0, .inr (5, [.ref q1, .ref q2, .ref q3, .int 0, .int 0, .int 0])) :: (((([] : va_W) ++ wRow cI 5 f1 q1) ++ wRow cI 5 f2 q2) ++ wRow cI 10 f3 q3)) := hD
  refine lv_aload_n hx hb di_Strait_51 rfl (lv_at hl 0 rfl) ?_
  refine lv_iconst (v := 0) hx hb di_Strait_52 (by decide) ?_
  refine va_put (D := D) (ci := 5) (v := .int 0) (ty := .int) (C := "GoingDark$Strait") (T := Tf5) (N := 6) hx hb hts lay5 tf5 tfo5 nf5 hown hK hP hD hS 0 rfl rfl 5 (by decide) (hts _ (gw1 77 rfl rfl)) (fun _ h9 => h9) rfl (by decide +kernel) rfl rfl (Nat.le_of_ble_eq_true rfl) di_Strait_53 (fun H locs hP hD hS => ?_)
  have hP : va_P D cls ((h0, .inr (5, [.ref q1, .ref q2, .ref q3, .int 0, .int 0, .int 0])) :: (((([] : va_W) ++ wRow cI 5 f1 q1) ++ wRow cI 5 f2 q2) ++ wRow cI 10 f3 q3)) H := hP
  have hD : va_D A ((h0, .inr (5, [.ref q1, .ref q2, .ref q3, .int 0, .int 0, .int 0])) :: (((([] : va_W) ++ wRow cI 5 f1 q1) ++ wRow cI 5 f2 q2) ++ wRow cI 10 f3 q3)) := hD
  exact fin 56 H locs ls (adr [q1, q2, q3, f1 0, f2 0, f3 0]) di_Strait_56 hP hD hS
theorem di_Night_0 : decode md_Night_init.2.1 0 = .ok (.aload_n 0, 1) := by decide +kernel
theorem di_Night_1 : decode md_Night_init.2.1 1 = .ok (.invokespecial 3, 3) := by decide +kernel
theorem di_Night_4 : decode md_Night_init.2.1 4 = .ok (.aload_n 0, 1) := by decide +kernel
theorem di_Night_5 : decode md_Night_init.2.1 5 = .ok (.new 9, 3) := by decide +kernel
theorem di_Night_8 : decode md_Night_init.2.1 8 = .ok (.dup, 1) := by decide +kernel
theorem di_Night_9 : decode md_Night_init.2.1 9 = .ok (.iconst 3, 1) := by decide +kernel
theorem di_Night_10 : decode md_Night_init.2.1 10 = .ok (.invokespecial 11, 3) := by decide +kernel
theorem di_Night_13 : decode md_Night_init.2.1 13 = .ok (.putfield 14, 3) := by decide +kernel
theorem di_Night_16 : decode md_Night_init.2.1 16 = .ok (.aload_n 0, 1) := by decide +kernel
theorem di_Night_17 : decode md_Night_init.2.1 17 = .ok (.new 9, 3) := by decide +kernel
theorem di_Night_20 : decode md_Night_init.2.1 20 = .ok (.dup, 1) := by decide +kernel
theorem di_Night_21 : decode md_Night_init.2.1 21 = .ok (.iconst 3, 1) := by decide +kernel
theorem di_Night_22 : decode md_Night_init.2.1 22 = .ok (.invokespecial 11, 3) := by decide +kernel
theorem di_Night_25 : decode md_Night_init.2.1 25 = .ok (.putfield 20, 3) := by decide +kernel
theorem di_Night_28 : decode md_Night_init.2.1 28 = .ok (.aload_n 0, 1) := by decide +kernel
theorem di_Night_29 : decode md_Night_init.2.1 29 = .ok (.new 9, 3) := by decide +kernel
theorem di_Night_32 : decode md_Night_init.2.1 32 = .ok (.dup, 1) := by decide +kernel
theorem di_Night_33 : decode md_Night_init.2.1 33 = .ok (.iconst 3, 1) := by decide +kernel
theorem di_Night_34 : decode md_Night_init.2.1 34 = .ok (.invokespecial 11, 3) := by decide +kernel
theorem di_Night_37 : decode md_Night_init.2.1 37 = .ok (.putfield 23, 3) := by decide +kernel
theorem di_Night_40 : decode md_Night_init.2.1 40 = .ok (.aload_n 0, 1) := by decide +kernel
theorem di_Night_41 : decode md_Night_init.2.1 41 = .ok (.new 9, 3) := by decide +kernel
theorem di_Night_44 : decode md_Night_init.2.1 44 = .ok (.dup, 1) := by decide +kernel
theorem di_Night_45 : decode md_Night_init.2.1 45 = .ok (.iconst 5, 1) := by decide +kernel
theorem di_Night_46 : decode md_Night_init.2.1 46 = .ok (.invokespecial 11, 3) := by decide +kernel
theorem di_Night_49 : decode md_Night_init.2.1 49 = .ok (.putfield 26, 3) := by decide +kernel
theorem di_Night_52 : decode md_Night_init.2.1 52 = .ok (.aload_n 0, 1) := by decide +kernel
theorem di_Night_53 : decode md_Night_init.2.1 53 = .ok (.new 9, 3) := by decide +kernel
theorem di_Night_56 : decode md_Night_init.2.1 56 = .ok (.dup, 1) := by decide +kernel
theorem di_Night_57 : decode md_Night_init.2.1 57 = .ok (.iconst 5, 1) := by decide +kernel
theorem di_Night_58 : decode md_Night_init.2.1 58 = .ok (.invokespecial 11, 3) := by decide +kernel
theorem di_Night_61 : decode md_Night_init.2.1 61 = .ok (.putfield 29, 3) := by decide +kernel
theorem di_Night_64 : decode md_Night_init.2.1 64 = .ok (.aload_n 0, 1) := by decide +kernel
theorem di_Night_65 : decode md_Night_init.2.1 65 = .ok (.new 9, 3) := by decide +kernel
theorem di_Night_68 : decode md_Night_init.2.1 68 = .ok (.dup, 1) := by decide +kernel
theorem di_Night_69 : decode md_Night_init.2.1 69 = .ok (.iconst 5, 1) := by decide +kernel
theorem di_Night_70 : decode md_Night_init.2.1 70 = .ok (.invokespecial 11, 3) := by decide +kernel
theorem di_Night_73 : decode md_Night_init.2.1 73 = .ok (.putfield 32, 3) := by decide +kernel
theorem di_Night_76 : decode md_Night_init.2.1 76 = .ok (.aload_n 0, 1) := by decide +kernel
theorem di_Night_77 : decode md_Night_init.2.1 77 = .ok (.iconst 0, 1) := by decide +kernel
theorem di_Night_78 : decode md_Night_init.2.1 78 = .ok (.putfield 35, 3) := by decide +kernel
theorem di_Night_81 : decode md_Night_init.2.1 81 = .ok (.aload_n 0, 1) := by decide +kernel
theorem di_Night_82 : decode md_Night_init.2.1 82 = .ok (.iconst 0, 1) := by decide +kernel
theorem di_Night_83 : decode md_Night_init.2.1 83 = .ok (.putfield 39, 3) := by decide +kernel
theorem di_Night_86 : decode md_Night_init.2.1 86 = .ok (.aload_n 0, 1) := by decide +kernel
theorem di_Night_87 : decode md_Night_init.2.1 87 = .ok (.iconst 0, 1) := by decide +kernel
theorem di_Night_88 : decode md_Night_init.2.1 88 = .ok (.putfield 42, 3) := by decide +kernel
theorem di_Night_91 : decode md_Night_init.2.1 91 = .ok (.aload_n 0, 1) := by decide +kernel
theorem di_Night_92 : decode md_Night_init.2.1 92 = .ok (.aload_n 1, 1) := by decide +kernel
theorem di_Night_93 : decode md_Night_init.2.1 93 = .ok (.putfield 45, 3) := by decide +kernel
theorem di_Night_96 : decode md_Night_init.2.1 96 = .ok (.return_, 1) := by decide +kernel
def rmNight : Room := { frames := 2, cells := 12, slots := 30, locals := 45 }
def wNight (cI : ClassId) (st : Nat) (f : Nat → Nat) (h : Nat) : va_W := [(h, .inr (2, [.ref st, .ref (f 0), .ref (f 1), .ref (f 2), .ref (f 3), .ref (f 4), .ref (f 5), .int 0, .int 0, .int 0])), (f 0, .inr (4, [.ref (f 6)])), (f 6, .inl (cI, 3, .inl (fun _ => 0))), (f 1, .inr (4, [.ref (f 7)])), (f 7, .inl (cI, 3, .inl (fun _ => 0))), (f 2, .inr (4, [.ref (f 8)])), (f 8, .inl (cI, 3, .inl (fun _ => 0))), (f 3, .inr (4, [.ref (f 9)])), (f 9, .inl (cI, 5, .inl (fun _ => 0))), (f 4, .inr (4, [.ref (f 10)])), (f 10, .inl (cI, 5, .inl (fun _ => 0))), (f 5, .inr (4, [.ref (f 11)])), (f 11, .inl (cI, 5, .inl (fun _ => 0)))]
set_option maxHeartbeats 4000000 in
set_option maxRecDepth 100000 in
theorem ct_Night_init (D : va_G) (cI : ClassId) (st : Nat) : CtN rmNight md_Night_init [.ref st] D cI 2 [.null, .null, .null, .null, .null, .null, .null, .int 0, .int 0, .int 0] 12 30 (wNight cI st) := by
  refine CtN_of 2 rfl rfl rfl (fun _ => Nat.le_of_ble_eq_true rfl) ?_
  intro p l e s m args below meth c h0 A ls Q hx hb hml hown hin hts hNW hK hP hD hA hl fin
  have hS : va_S A s.heap s.heap [] := va_S.rf
  have hl : lv_has ls 2 [(0, .ref h0), (1, .ref st)] := hl
  have hP : va_P D cls ((h0, .inr (2, [.null, .null, .null, .null, .null, .null, .null, .int 0, .int 0, .int 0])) :: ([] : va_W)) s.heap := hP
  have hD : va_D A ((h0, .inr (2, [.null, .null, .null, .null, .null, .null, .null, .int 0, .int 0, .int 0])) :: ([] : va_W)) := hD
  refine lv_aload_n hx hb di_Night_0 rfl (lv_at hl 0 rfl) ?_
  refine W.objInit hx hb hown (hts _ (gw1 98 rfl rfl)) (hts _ (gw1 22 rfl rfl)) (hts _ (gw1 23 rfl rfl)) rfl (by rw [hml]; exact hl.1) rfl di_Night_1 (Nat.le_of_ble_eq_true rfl) (Nat.le_of_ble_eq_true rfl) ?_
  refine W.eq (g2 := F0 m 4 ls []) rfl ?_
  refine lv_aload_n hx hb di_Night_4 rfl (lv_at hl 0 rfl) ?_
  refine va_new (ci := 4) (fs := [.null]) (C := "GoingDark$Row") (T := Tf4) (N := 1) hx hb hts lay4 tf4 tfo4 hown (hts _ (gw1 99 rfl rfl)) (hts _ (gw1 31 rfl rfl)) (hts _ (gw1 3 rfl rfl)) hK hP hD hS hA rfl (fun j hj => by rcases (show j = 0 by omega) with rfl; rfl) (Nat.le_of_ble_eq_true rfl) (Nat.le_of_ble_eq_true rfl) di_Night_5 (fun q1 H hP hD hS => ?_)
  refine W.widen (k := 1) (n := 1) (Nat.le_of_ble_eq_true rfl) (Nat.le_of_ble_eq_true rfl) ?_
  refine lv_dup hx hb di_Night_8 rfl ?_
  refine lv_iconst (v := 3) hx hb di_Night_9 (by decide) ?_
  refine mk_call (q := q1) (rest := [.ref q1, .ref h0]) [.int 3] hx hb hml hown hts hNW hK hP hD hS hA (ct_Row_3 D cI) mdN_Row rfl (gw1 100 rfl rfl) rfl rfl ⟨Nat.le_of_ble_eq_true rfl, Nat.le_of_ble_eq_true rfl⟩ hl.1 (Nat.le_of_ble_eq_true rfl) ⟨Nat.le_of_ble_eq_true rfl, Nat.le_of_ble_eq_true rfl⟩ di_Night_10 (fun f1 H locs hP hD hS => ?_)
  refine W.widen (k := 2) (n := 4) (Nat.le_of_ble_eq_true rfl) (Nat.le_of_ble_eq_true rfl) ?_
  have hP : va_P D cls ((h0, .inr (2, [.null, .null, .null, .null, .null, .null, .null, .int 0, .int 0, .int 0])) :: (([] : va_W) ++ wRow cI 3 f1 q1)) H := hP
  have hD : va_D A ((h0, .inr (2, [.null, .null, .null, .null, .null, .null, .null, .int 0, .int 0, .int 0])) :: (([] : va_W) ++ wRow cI 3 f1 q1)) := hD
  refine va_putF (D := D) (ci := 2) (v := .ref q1) (ty := (.object "GoingDark$Row")) (C := "GoingDark$Night") (T := Tf2) (N := 10) hx hb hts lay2 tf2 tfo2 nf2 hown hK hP hD hS 0 rfl rfl 1 (by decide) (hts _ (gw1 102 rfl rfl)) (fun _ h9 => h9) rfl hin rfl (by decide +kernel) rfl rfl (Nat.le_of_ble_eq_true rfl) di_Night_13 (fun H locs hP hD hS => ?_)
  have hP : va_P D cls ((h0, .inr (2, [.null, .ref q1, .null, .null, .null, .null, .null, .int 0, .int 0, .int 0])) :: (([] : va_W) ++ wRow cI 3 f1 q1)) H := hP
  have hD : va_D A ((h0, .inr (2, [.null, .ref q1, .null, .null, .null, .null, .null, .int 0, .int 0, .int 0])) :: (([] : va_W) ++ wRow cI 3 f1 q1)) := hD
  refine lv_aload_n hx hb di_Night_16 rfl (lv_at hl 0 rfl) ?_
  refine va_new (ci := 4) (fs := [.null]) (C := "GoingDark$Row") (T := Tf4) (N := 1) hx hb hts lay4 tf4 tfo4 hown (hts _ (gw1 99 rfl rfl)) (hts _ (gw1 31 rfl rfl)) (hts _ (gw1 3 rfl rfl)) hK hP hD hS hA rfl (fun j hj => by rcases (show j = 0 by omega) with rfl; rfl) (Nat.le_of_ble_eq_true rfl) (Nat.le_of_ble_eq_true rfl) di_Night_17 (fun q2 H hP hD hS => ?_)
  refine W.widen (k := 3) (n := 5) (Nat.le_of_ble_eq_true rfl) (Nat.le_of_ble_eq_true rfl) ?_
  refine lv_dup hx hb di_Night_20 rfl ?_
  refine lv_iconst (v := 3) hx hb di_Night_21 (by decide) ?_
  refine mk_call (q := q2) (rest := [.ref q2, .ref h0]) [.int 3] hx hb hml hown hts hNW hK hP hD hS hA (ct_Row_3 D cI) mdN_Row rfl (gw1 100 rfl rfl) rfl rfl ⟨Nat.le_of_ble_eq_true rfl, Nat.le_of_ble_eq_true rfl⟩ hl.1 (Nat.le_of_ble_eq_true rfl) ⟨Nat.le_of_ble_eq_true rfl, Nat.le_of_ble_eq_true rfl⟩ di_Night_22 (fun f2 H locs hP hD hS => ?_)
  refine W.widen (k := 4) (n := 8) (Nat.le_of_ble_eq_true rfl) (Nat.le_of_ble_eq_true rfl) ?_
  have hP : va_P D cls ((h0, .inr (2, [.null, .ref q1, .null, .null, .null, .null, .null, .int 0, .int 0, .int 0])) :: ((([] : va_W) ++ wRow cI 3 f1 q1) ++ wRow cI 3 f2 q2)) H := hP
  have hD : va_D A ((h0, .inr (2, [.null, .ref q1, .null, .null, .null, .null, .null, .int 0, .int 0, .int 0])) :: ((([] : va_W) ++ wRow cI 3 f1 q1) ++ wRow cI 3 f2 q2)) := hD
  refine va_putF (D := D) (ci := 2) (v := .ref q2) (ty := (.object "GoingDark$Row")) (C := "GoingDark$Night") (T := Tf2) (N := 10) hx hb hts lay2 tf2 tfo2 nf2 hown hK hP hD hS 0 rfl rfl 2 (by decide) (hts _ (gw1 104 rfl rfl)) (fun _ h9 => h9) rfl hin rfl (by decide +kernel) rfl rfl (Nat.le_of_ble_eq_true rfl) di_Night_25 (fun H locs hP hD hS => ?_)
  have hP : va_P D cls ((h0, .inr (2, [.null, .ref q1, .ref q2, .null, .null, .null, .null, .int 0, .int 0, .int 0])) :: ((([] : va_W) ++ wRow cI 3 f1 q1) ++ wRow cI 3 f2 q2)) H := hP
  have hD : va_D A ((h0, .inr (2, [.null, .ref q1, .ref q2, .null, .null, .null, .null, .int 0, .int 0, .int 0])) :: ((([] : va_W) ++ wRow cI 3 f1 q1) ++ wRow cI 3 f2 q2)) := hD
  refine lv_aload_n hx hb di_Night_28 rfl (lv_at hl 0 rfl) ?_
  refine va_new (ci := 4) (fs := [.null]) (C := "GoingDark$Row") (T := Tf4) (N := 1) hx hb hts lay4 tf4 tfo4 hown (hts _ (gw1 99 rfl rfl)) (hts _ (gw1 31 rfl rfl)) (hts _ (gw1 3 rfl rfl)) hK hP hD hS hA rfl (fun j hj => by rcases (show j = 0 by omega) with rfl; rfl) (Nat.le_of_ble_eq_true rfl) (Nat.le_of_ble_eq_true rfl) di_Night_29 (fun q3 H hP hD hS => ?_)
  refine W.widen (k := 5) (n := 9) (Nat.le_of_ble_eq_true rfl) (Nat.le_of_ble_eq_true rfl) ?_
  refine lv_dup hx hb di_Night_32 rfl ?_
  refine lv_iconst (v := 3) hx hb di_Night_33 (by decide) ?_
  refine mk_call (q := q3) (rest := [.ref q3, .ref h0]) [.int 3] hx hb hml hown hts hNW hK hP hD hS hA (ct_Row_3 D cI) mdN_Row rfl (gw1 100 rfl rfl) rfl rfl ⟨Nat.le_of_ble_eq_true rfl, Nat.le_of_ble_eq_true rfl⟩ hl.1 (Nat.le_of_ble_eq_true rfl) ⟨Nat.le_of_ble_eq_true rfl, Nat.le_of_ble_eq_true rfl⟩ di_Night_34 (fun f3 H locs hP hD hS => ?_)
  refine W.widen (k := 6) (n := 12) (Nat.le_of_ble_eq_true rfl) (Nat.le_of_ble_eq_true rfl) ?_
  have hP : va_P D cls ((h0, .inr (2, [.null, .ref q1, .ref q2, .null, .null, .null, .null, .int 0, .int 0, .int 0])) :: (((([] : va_W) ++ wRow cI 3 f1 q1) ++ wRow cI 3 f2 q2) ++ wRow cI 3 f3 q3)) H := hP
  have hD : va_D A ((h0, .inr (2, [.null, .ref q1, .ref q2, .null, .null, .null, .null, .int 0, .int 0, .int 0])) :: (((([] : va_W) ++ wRow cI 3 f1 q1) ++ wRow cI 3 f2 q2) ++ wRow cI 3 f3 q3)) := hD
  refine va_putF (D := D) (ci := 2) (v := .ref q3) (ty := (.object "GoingDark$Row")) (C := "GoingDark$Night") (T := Tf2) (N := 10) hx hb hts lay2 tf2 tfo2 nf2 hown hK hP hD hS 0 rfl rfl 3 (by decide) (hts _ (gw1 106 rfl rfl)) (fun _ h9 => h9) rfl hin rfl (by decide +kernel) rfl rfl (Nat.le_of_ble_eq_true rfl) di_Night_37 (fun H locs hP hD hS => ?_)
  have hP : va_P D cls ((h0, .inr (2, [.null, .ref q1, .ref q2, .ref q3, .null, .null, .null, .int 0, .int 0, .int 0])) :: (((([] : va_W) ++ wRow cI 3 f1 q1) ++ wRow cI 3 f2 q2) ++ wRow cI 3 f3 q3)) H := hP
  have hD : va_D A ((h0, .inr (2, [.null, .ref q1, .ref q2, .ref q3, .null, .null, .null, .int 0, .int 0, .int 0])) :: (((([] : va_W) ++ wRow cI 3 f1 q1) ++ wRow cI 3 f2 q2) ++ wRow cI 3 f3 q3)) := hD
  refine lv_aload_n hx hb di_Night_40 rfl (lv_at hl 0 rfl) ?_
  refine va_new (ci := 4) (fs := [.null]) (C := "GoingDark$Row") (T := Tf4) (N := 1) hx hb hts lay4 tf4 tfo4 hown (hts _ (gw1 99 rfl rfl)) (hts _ (gw1 31 rfl rfl)) (hts _ (gw1 3 rfl rfl)) hK hP hD hS hA rfl (fun j hj => by rcases (show j = 0 by omega) with rfl; rfl) (Nat.le_of_ble_eq_true rfl) (Nat.le_of_ble_eq_true rfl) di_Night_41 (fun q4 H hP hD hS => ?_)
  refine W.widen (k := 7) (n := 13) (Nat.le_of_ble_eq_true rfl) (Nat.le_of_ble_eq_true rfl) ?_
  refine lv_dup hx hb di_Night_44 rfl ?_
  refine lv_iconst (v := 5) hx hb di_Night_45 (by decide) ?_
  refine mk_call (q := q4) (rest := [.ref q4, .ref h0]) [.int 5] hx hb hml hown hts hNW hK hP hD hS hA (ct_Row_5 D cI) mdN_Row rfl (gw1 100 rfl rfl) rfl rfl ⟨Nat.le_of_ble_eq_true rfl, Nat.le_of_ble_eq_true rfl⟩ hl.1 (Nat.le_of_ble_eq_true rfl) ⟨Nat.le_of_ble_eq_true rfl, Nat.le_of_ble_eq_true rfl⟩ di_Night_46 (fun f4 H locs hP hD hS => ?_)
  refine W.widen (k := 8) (n := 18) (Nat.le_of_ble_eq_true rfl) (Nat.le_of_ble_eq_true rfl) ?_
  have hP : va_P D cls ((h0, .inr (2, [.null, .ref q1, .ref q2, .ref q3, .null, .null, .null, .int 0, .int 0, .int 0])) :: ((((([] : va_W) ++ wRow cI 3 f1 q1) ++ wRow cI 3 f2 q2) ++ wRow cI 3 f3 q3) ++ wRow cI 5 f4 q4)) H := hP
  have hD : va_D A ((h0, .inr (2, [.null, .ref q1, .ref q2, .ref q3, .null, .null, .null, .int 0, .int 0, .int 0])) :: ((((([] : va_W) ++ wRow cI 3 f1 q1) ++ wRow cI 3 f2 q2) ++ wRow cI 3 f3 q3) ++ wRow cI 5 f4 q4)) := hD
  refine va_putF (D := D) (ci := 2) (v := .ref q4) (ty := (.object "GoingDark$Row")) (C := "GoingDark$Night") (T := Tf2) (N := 10) hx hb hts lay2 tf2 tfo2 nf2 hown hK hP hD hS 0 rfl rfl 4 (by decide) (hts _ (gw1 108 rfl rfl)) (fun _ h9 => h9) rfl hin rfl (by decide +kernel) rfl rfl (Nat.le_of_ble_eq_true rfl) di_Night_49 (fun H locs hP hD hS => ?_)
  have hP : va_P D cls ((h0, .inr (2, [.null, .ref q1, .ref q2, .ref q3, .ref q4, .null, .null, .int 0, .int 0, .int 0])) :: ((((([] : va_W) ++ wRow cI 3 f1 q1) ++ wRow cI 3 f2 q2) ++ wRow cI 3 f3 q3) ++ wRow cI 5 f4 q4)) H := hP
  have hD : va_D A ((h0, .inr (2, [.null, .ref q1, .ref q2, .ref q3, .ref q4, .null, .null, .int 0, .int 0, .int 0])) :: ((((([] : va_W) ++ wRow cI 3 f1 q1) ++ wRow cI 3 f2 q2) ++ wRow cI 3 f3 q3) ++ wRow cI 5 f4 q4)) := hD
  refine lv_aload_n hx hb di_Night_52 rfl (lv_at hl 0 rfl) ?_
  refine va_new (ci := 4) (fs := [.null]) (C := "GoingDark$Row") (T := Tf4) (N := 1) hx hb hts lay4 tf4 tfo4 hown (hts _ (gw1 99 rfl rfl)) (hts _ (gw1 31 rfl rfl)) (hts _ (gw1 3 rfl rfl)) hK hP hD hS hA rfl (fun j hj => by rcases (show j = 0 by omega) with rfl; rfl) (Nat.le_of_ble_eq_true rfl) (Nat.le_of_ble_eq_true rfl) di_Night_53 (fun q5 H hP hD hS => ?_)
  refine W.widen (k := 9) (n := 19) (Nat.le_of_ble_eq_true rfl) (Nat.le_of_ble_eq_true rfl) ?_
  refine lv_dup hx hb di_Night_56 rfl ?_
  refine lv_iconst (v := 5) hx hb di_Night_57 (by decide) ?_
  refine mk_call (q := q5) (rest := [.ref q5, .ref h0]) [.int 5] hx hb hml hown hts hNW hK hP hD hS hA (ct_Row_5 D cI) mdN_Row rfl (gw1 100 rfl rfl) rfl rfl ⟨Nat.le_of_ble_eq_true rfl, Nat.le_of_ble_eq_true rfl⟩ hl.1 (Nat.le_of_ble_eq_true rfl) ⟨Nat.le_of_ble_eq_true rfl, Nat.le_of_ble_eq_true rfl⟩ di_Night_58 (fun f5 H locs hP hD hS => ?_)
  refine W.widen (k := 10) (n := 24) (Nat.le_of_ble_eq_true rfl) (Nat.le_of_ble_eq_true rfl) ?_
  have hP : va_P D cls ((h0, .inr (2, [.null, .ref q1, .ref q2, .ref q3, .ref q4, .null, .null, .int 0, .int 0, .int 0])) :: (((((([] : va_W) ++ wRow cI 3 f1 q1) ++ wRow cI 3 f2 q2) ++ wRow cI 3 f3 q3) ++ wRow cI 5 f4 q4) ++ wRow cI 5 f5 q5)) H := hP
  have hD : va_D A ((h0, .inr (2, [.null, .ref q1, .ref q2, .ref q3, .ref q4, .null, .null, .int 0, .int 0, .int 0])) :: (((((([] : va_W) ++ wRow cI 3 f1 q1) ++ wRow cI 3 f2 q2) ++ wRow cI 3 f3 q3) ++ wRow cI 5 f4 q4) ++ wRow cI 5 f5 q5)) := hD
  refine va_putF (D := D) (ci := 2) (v := .ref q5) (ty := (.object "GoingDark$Row")) (C := "GoingDark$Night") (T := Tf2) (N := 10) hx hb hts lay2 tf2 tfo2 nf2 hown hK hP hD hS 0 rfl rfl 5 (by decide) (hts _ (gw1 110 rfl rfl)) (fun _ h9 => h9) rfl hin rfl (by decide +kernel) rfl rfl (Nat.le_of_ble_eq_true rfl) di_Night_61 (fun H locs hP hD hS => ?_)
  have hP : va_P D cls ((h0, .inr (2, [.null, .ref q1, .ref q2, .ref q3, .ref q4, .ref q5, .null, .int 0, .int 0, .int 0])) :: (((((([] : va_W) ++ wRow cI 3 f1 q1) ++ wRow cI 3 f2 q2) ++ wRow cI 3 f3 q3) ++ wRow cI 5 f4 q4) ++ wRow cI 5 f5 q5)) H := hP
  have hD : va_D A ((h0, .inr (2, [.null, .ref q1, .ref q2, .ref q3, .ref q4, .ref q5, .null, .int 0, .int 0, .int 0])) :: (((((([] : va_W) ++ wRow cI 3 f1 q1) ++ wRow cI 3 f2 q2) ++ wRow cI 3 f3 q3) ++ wRow cI 5 f4 q4) ++ wRow cI 5 f5 q5)) := hD
  refine lv_aload_n hx hb di_Night_64 rfl (lv_at hl 0 rfl) ?_
  refine va_new (ci := 4) (fs := [.null]) (C := "GoingDark$Row") (T := Tf4) (N := 1) hx hb hts lay4 tf4 tfo4 hown (hts _ (gw1 99 rfl rfl)) (hts _ (gw1 31 rfl rfl)) (hts _ (gw1 3 rfl rfl)) hK hP hD hS hA rfl (fun j hj => by rcases (show j = 0 by omega) with rfl; rfl) (Nat.le_of_ble_eq_true rfl) (Nat.le_of_ble_eq_true rfl) di_Night_65 (fun q6 H hP hD hS => ?_)
  refine W.widen (k := 11) (n := 25) (Nat.le_of_ble_eq_true rfl) (Nat.le_of_ble_eq_true rfl) ?_
  refine lv_dup hx hb di_Night_68 rfl ?_
  refine lv_iconst (v := 5) hx hb di_Night_69 (by decide) ?_
  refine mk_call (q := q6) (rest := [.ref q6, .ref h0]) [.int 5] hx hb hml hown hts hNW hK hP hD hS hA (ct_Row_5 D cI) mdN_Row rfl (gw1 100 rfl rfl) rfl rfl ⟨Nat.le_of_ble_eq_true rfl, Nat.le_of_ble_eq_true rfl⟩ hl.1 (Nat.le_of_ble_eq_true rfl) ⟨Nat.le_of_ble_eq_true rfl, Nat.le_of_ble_eq_true rfl⟩ di_Night_70 (fun f6 H locs hP hD hS => ?_)
  refine W.widen (k := 12) (n := 30) (Nat.le_of_ble_eq_true rfl) (Nat.le_of_ble_eq_true rfl) ?_
  have hP : va_P D cls ((h0, .inr (2, [.null, .ref q1, .ref q2, .ref q3, .ref q4, .ref q5, .null, .int 0, .int 0, .int 0])) :: ((((((([] : va_W) ++ wRow cI 3 f1 q1) ++ wRow cI 3 f2 q2) ++ wRow cI 3 f3 q3) ++ wRow cI 5 f4 q4) ++ wRow cI 5 f5 q5) ++ wRow cI 5 f6 q6)) H := hP
  have hD : va_D A ((h0, .inr (2, [.null, .ref q1, .ref q2, .ref q3, .ref q4, .ref q5, .null, .int 0, .int 0, .int 0])) :: ((((((([] : va_W) ++ wRow cI 3 f1 q1) ++ wRow cI 3 f2 q2) ++ wRow cI 3 f3 q3) ++ wRow cI 5 f4 q4) ++ wRow cI 5 f5 q5) ++ wRow cI 5 f6 q6)) := hD
  refine va_putF (D := D) (ci := 2) (v := .ref q6) (ty := (.object "GoingDark$Row")) (C := "GoingDark$Night") (T := Tf2) (N := 10) hx hb hts lay2 tf2 tfo2 nf2 hown hK hP hD hS 0 rfl rfl 6 (by decide) (hts _ (gw1 112 rfl rfl)) (fun _ h9 => h9) rfl hin rfl (by decide +kernel) rfl rfl (Nat.le_of_ble_eq_true rfl) di_Night_73 (fun H locs hP hD hS => ?_)
  have hP : va_P D cls ((h0, .inr (2, [.null, .ref q1, .ref q2, .ref q3, .ref q4, .ref q5, .ref q6, .int 0, .int 0, .int 0])) :: ((((((([] : va_W) ++ wRow cI 3 f1 q1) ++ wRow cI 3 f2 q2) ++ wRow cI 3 f3 q3) ++ wRow cI 5 f4 q4) ++ wRow cI 5 f5 q5) ++ wRow cI 5 f6 q6)) H := hP
  have hD : va_D A ((h0, .inr (2, [.null, .ref q1, .ref q2, .ref q3, .ref q4, .ref q5, .ref q6, .int 0, .int 0, .int 0])) :: ((((((([] : va_W) ++ wRow cI 3 f1 q1) ++ wRow cI 3 f2 q2) ++ wRow cI 3 f3 q3) ++ wRow cI 5 f4 q4) ++ wRow cI 5 f5 q5) ++ wRow cI 5 f6 q6)) := hD
  refine lv_aload_n hx hb di_Night_76 rfl (lv_at hl 0 rfl) ?_
  refine lv_iconst (v := 0) hx hb di_Night_77 (by decide) ?_
  refine va_put (D := D) (ci := 2) (v := .int 0) (ty := .int) (C := "GoingDark$Night") (T := Tf2) (N := 10) hx hb hts lay2 tf2 tfo2 nf2 hown hK hP hD hS 0 rfl rfl 7 (by decide) (hts _ (gw1 114 rfl rfl)) (fun _ h9 => h9) rfl (by decide +kernel) rfl rfl (Nat.le_of_ble_eq_true rfl) di_Night_78 (fun H locs hP hD hS => ?_)
  have hP : va_P D cls ((h0, .inr (2, [.null, .ref q1, .ref q2, .ref q3, .ref q4, .ref q5, .ref q6, .int 0, .int 0, .int 0])) :: ((((((([] : va_W) ++ wRow cI 3 f1 q1) ++ wRow cI 3 f2 q2) ++ wRow cI 3 f3 q3) ++ wRow cI 5 f4 q4) ++ wRow cI 5 f5 q5) ++ wRow cI 5 f6 q6)) H := hP
  have hD : va_D A ((h0, .inr (2, [.null, .ref q1, .ref q2, .ref q3, .ref q4, .ref q5, .ref q6, .int 0, .int 0, .int 0])) :: ((((((([] : va_W) ++ wRow cI 3 f1 q1) ++ wRow cI 3 f2 q2) ++ wRow cI 3 f3 q3) ++ wRow cI 5 f4 q4) ++ wRow cI 5 f5 q5) ++ wRow cI 5 f6 q6)) := hD
  refine lv_aload_n hx hb di_Night_81 rfl (lv_at hl 0 rfl) ?_
  refine lv_iconst (v := 0) hx hb di_Night_82 (by decide) ?_
  refine va_put (D := D) (ci := 2) (v := .int 0) (ty := .int) (C := "GoingDark$Night") (T := Tf2) (N := 10) hx hb hts lay2 tf2 tfo2 nf2 hown hK hP hD hS 0 rfl rfl 8 (by decide) (hts _ (gw1 116 rfl rfl)) (fun _ h9 => h9) rfl (by decide +kernel) rfl rfl (Nat.le_of_ble_eq_true rfl) di_Night_83 (fun H locs hP hD hS => ?_)
  have hP : va_P D cls ((h0, .inr (2, [.null, .ref q1, .ref q2, .ref q3, .ref q4, .ref q5, .ref q6, .int 0, .int 0, .int 0])) :: ((((((([] : va_W) ++ wRow cI 3 f1 q1) ++ wRow cI 3 f2 q2) ++ wRow cI 3 f3 q3) ++ wRow cI 5 f4 q4) ++ wRow cI 5 f5 q5) ++ wRow cI 5 f6 q6)) H := hP
  have hD : va_D A ((h0, .inr (2, [.null, .ref q1, .ref q2, .ref q3, .ref q4, .ref q5, .ref q6, .int 0, .int 0, .int 0])) :: ((((((([] : va_W) ++ wRow cI 3 f1 q1) ++ wRow cI 3 f2 q2) ++ wRow cI 3 f3 q3) ++ wRow cI 5 f4 q4) ++ wRow cI 5 f5 q5) ++ wRow cI 5 f6 q6)) := hD
  refine lv_aload_n hx hb di_Night_86 rfl (lv_at hl 0 rfl) ?_
  refine lv_iconst (v := 0) hx hb di_Night_87 (by decide) ?_
  refine va_put (D := D) (ci := 2) (v := .int 0) (ty := .int) (C := "GoingDark$Night") (T := Tf2) (N := 10) hx hb hts lay2 tf2 tfo2 nf2 hown hK hP hD hS 0 rfl rfl 9 (by decide) (hts _ (gw1 118 rfl rfl)) (fun _ h9 => h9) rfl (by decide +kernel) rfl rfl (Nat.le_of_ble_eq_true rfl) di_Night_88 (fun H locs hP hD hS => ?_)
  have hP : va_P D cls ((h0, .inr (2, [.null, .ref q1, .ref q2, .ref q3, .ref q4, .ref q5, .ref q6, .int 0, .int 0, .int 0])) :: ((((((([] : va_W) ++ wRow cI 3 f1 q1) ++ wRow cI 3 f2 q2) ++ wRow cI 3 f3 q3) ++ wRow cI 5 f4 q4) ++ wRow cI 5 f5 q5) ++ wRow cI 5 f6 q6)) H := hP
  have hD : va_D A ((h0, .inr (2, [.null, .ref q1, .ref q2, .ref q3, .ref q4, .ref q5, .ref q6, .int 0, .int 0, .int 0])) :: ((((((([] : va_W) ++ wRow cI 3 f1 q1) ++ wRow cI 3 f2 q2) ++ wRow cI 3 f3 q3) ++ wRow cI 5 f4 q4) ++ wRow cI 5 f5 q5) ++ wRow cI 5 f6 q6)) := hD
  refine lv_aload_n hx hb di_Night_91 rfl (lv_at hl 0 rfl) ?_
  refine lv_aload_n hx hb di_Night_92 rfl (lv_at hl 1 rfl) ?_
  refine va_putF (D := D) (ci := 2) (v := .ref st) (ty := (.object "GoingDark$Strait")) (C := "GoingDark$Night") (T := Tf2) (N := 10) hx hb hts lay2 tf2 tfo2 nf2 hown hK hP hD hS 0 rfl rfl 0 (by decide) (hts _ (gw1 101 rfl rfl)) (fun _ h9 => h9) rfl hin rfl (by decide +kernel) rfl rfl (Nat.le_of_ble_eq_true rfl) di_Night_93 (fun H locs hP hD hS => ?_)
  have hP : va_P D cls ((h0, .inr (2, [.ref st, .ref q1, .ref q2, .ref q3, .ref q4, .ref q5, .ref q6, .int 0, .int 0, .int 0])) :: ((((((([] : va_W) ++ wRow cI 3 f1 q1) ++ wRow cI 3 f2 q2) ++ wRow cI 3 f3 q3) ++ wRow cI 5 f4 q4) ++ wRow cI 5 f5 q5) ++ wRow cI 5 f6 q6)) H := hP
  have hD : va_D A ((h0, .inr (2, [.ref st, .ref q1, .ref q2, .ref q3, .ref q4, .ref q5, .ref q6, .int 0, .int 0, .int 0])) :: ((((((([] : va_W) ++ wRow cI 3 f1 q1) ++ wRow cI 3 f2 q2) ++ wRow cI 3 f3 q3) ++ wRow cI 5 f4 q4) ++ wRow cI 5 f5 q5) ++ wRow cI 5 f6 q6)) := hD
  exact fin 96 H locs ls (adr [q1, q2, q3, q4, q5, q6, f1 0, f2 0, f3 0, f4 0, f5 0, f6 0]) di_Night_96 hP hD hS
theorem di_Heard_0 : decode md_Heard_init.2.1 0 = .ok (.aload_n 0, 1) := by decide +kernel
theorem di_Heard_1 : decode md_Heard_init.2.1 1 = .ok (.invokespecial 3, 3) := by decide +kernel
theorem di_Heard_4 : decode md_Heard_init.2.1 4 = .ok (.aload_n 0, 1) := by decide +kernel
theorem di_Heard_5 : decode md_Heard_init.2.1 5 = .ok (.new 9, 3) := by decide +kernel
theorem di_Heard_8 : decode md_Heard_init.2.1 8 = .ok (.dup, 1) := by decide +kernel
theorem di_Heard_9 : decode md_Heard_init.2.1 9 = .ok (.bipush 8, 2) := by decide +kernel
theorem di_Heard_11 : decode md_Heard_init.2.1 11 = .ok (.invokespecial 11, 3) := by decide +kernel
theorem di_Heard_14 : decode md_Heard_init.2.1 14 = .ok (.putfield 14, 3) := by decide +kernel
theorem di_Heard_17 : decode md_Heard_init.2.1 17 = .ok (.aload_n 0, 1) := by decide +kernel
theorem di_Heard_18 : decode md_Heard_init.2.1 18 = .ok (.new 9, 3) := by decide +kernel
theorem di_Heard_21 : decode md_Heard_init.2.1 21 = .ok (.dup, 1) := by decide +kernel
theorem di_Heard_22 : decode md_Heard_init.2.1 22 = .ok (.bipush 8, 2) := by decide +kernel
theorem di_Heard_24 : decode md_Heard_init.2.1 24 = .ok (.invokespecial 11, 3) := by decide +kernel
theorem di_Heard_27 : decode md_Heard_init.2.1 27 = .ok (.putfield 20, 3) := by decide +kernel
theorem di_Heard_30 : decode md_Heard_init.2.1 30 = .ok (.aload_n 0, 1) := by decide +kernel
theorem di_Heard_31 : decode md_Heard_init.2.1 31 = .ok (.new 9, 3) := by decide +kernel
theorem di_Heard_34 : decode md_Heard_init.2.1 34 = .ok (.dup, 1) := by decide +kernel
theorem di_Heard_35 : decode md_Heard_init.2.1 35 = .ok (.bipush 8, 2) := by decide +kernel
theorem di_Heard_37 : decode md_Heard_init.2.1 37 = .ok (.invokespecial 11, 3) := by decide +kernel
theorem di_Heard_40 : decode md_Heard_init.2.1 40 = .ok (.putfield 23, 3) := by decide +kernel
theorem di_Heard_43 : decode md_Heard_init.2.1 43 = .ok (.aload_n 0, 1) := by decide +kernel
theorem di_Heard_44 : decode md_Heard_init.2.1 44 = .ok (.new 9, 3) := by decide +kernel
theorem di_Heard_47 : decode md_Heard_init.2.1 47 = .ok (.dup, 1) := by decide +kernel
theorem di_Heard_48 : decode md_Heard_init.2.1 48 = .ok (.bipush 8, 2) := by decide +kernel
theorem di_Heard_50 : decode md_Heard_init.2.1 50 = .ok (.invokespecial 11, 3) := by decide +kernel
theorem di_Heard_53 : decode md_Heard_init.2.1 53 = .ok (.putfield 26, 3) := by decide +kernel
theorem di_Heard_56 : decode md_Heard_init.2.1 56 = .ok (.aload_n 0, 1) := by decide +kernel
theorem di_Heard_57 : decode md_Heard_init.2.1 57 = .ok (.new 9, 3) := by decide +kernel
theorem di_Heard_60 : decode md_Heard_init.2.1 60 = .ok (.dup, 1) := by decide +kernel
theorem di_Heard_61 : decode md_Heard_init.2.1 61 = .ok (.bipush 8, 2) := by decide +kernel
theorem di_Heard_63 : decode md_Heard_init.2.1 63 = .ok (.invokespecial 11, 3) := by decide +kernel
theorem di_Heard_66 : decode md_Heard_init.2.1 66 = .ok (.putfield 29, 3) := by decide +kernel
theorem di_Heard_69 : decode md_Heard_init.2.1 69 = .ok (.aload_n 0, 1) := by decide +kernel
theorem di_Heard_70 : decode md_Heard_init.2.1 70 = .ok (.iconst 0, 1) := by decide +kernel
theorem di_Heard_71 : decode md_Heard_init.2.1 71 = .ok (.putfield 32, 3) := by decide +kernel
theorem di_Heard_74 : decode md_Heard_init.2.1 74 = .ok (.aload_n 0, 1) := by decide +kernel
theorem di_Heard_75 : decode md_Heard_init.2.1 75 = .ok (.aload_n 1, 1) := by decide +kernel
theorem di_Heard_76 : decode md_Heard_init.2.1 76 = .ok (.putfield 36, 3) := by decide +kernel
theorem di_Heard_79 : decode md_Heard_init.2.1 79 = .ok (.return_, 1) := by decide +kernel
def rmHeard : Room := { frames := 2, cells := 10, slots := 45, locals := 45 }
def wHeard (cI : ClassId) (st : Nat) (f : Nat → Nat) (h : Nat) : va_W := [(h, .inr (1, [.ref st, .ref (f 0), .ref (f 1), .ref (f 2), .ref (f 3), .ref (f 4), .int 0])), (f 0, .inr (4, [.ref (f 5)])), (f 5, .inl (cI, 8, .inl (fun _ => 0))), (f 1, .inr (4, [.ref (f 6)])), (f 6, .inl (cI, 8, .inl (fun _ => 0))), (f 2, .inr (4, [.ref (f 7)])), (f 7, .inl (cI, 8, .inl (fun _ => 0))), (f 3, .inr (4, [.ref (f 8)])), (f 8, .inl (cI, 8, .inl (fun _ => 0))), (f 4, .inr (4, [.ref (f 9)])), (f 9, .inl (cI, 8, .inl (fun _ => 0)))]
set_option maxHeartbeats 4000000 in
set_option maxRecDepth 100000 in
theorem ct_Heard_init (D : va_G) (cI : ClassId) (st : Nat) : CtN rmHeard md_Heard_init [.ref st] D cI 1 [.null, .null, .null, .null, .null, .null, .int 0] 10 45 (wHeard cI st) := by
  refine CtN_of 1 rfl rfl rfl (fun _ => Nat.le_of_ble_eq_true rfl) ?_
  intro p l e s m args below meth c h0 A ls Q hx hb hml hown hin hts hNW hK hP hD hA hl fin
  have hS : va_S A s.heap s.heap [] := va_S.rf
  have hl : lv_has ls 2 [(0, .ref h0), (1, .ref st)] := hl
  have hP : va_P D cls ((h0, .inr (1, [.null, .null, .null, .null, .null, .null, .int 0])) :: ([] : va_W)) s.heap := hP
  have hD : va_D A ((h0, .inr (1, [.null, .null, .null, .null, .null, .null, .int 0])) :: ([] : va_W)) := hD
  refine lv_aload_n hx hb di_Heard_0 rfl (lv_at hl 0 rfl) ?_
  refine W.objInit hx hb hown (hts _ (gw1 146 rfl rfl)) (hts _ (gw1 22 rfl rfl)) (hts _ (gw1 23 rfl rfl)) rfl (by rw [hml]; exact hl.1) rfl di_Heard_1 (Nat.le_of_ble_eq_true rfl) (Nat.le_of_ble_eq_true rfl) ?_
  refine W.eq (g2 := F0 m 4 ls []) rfl ?_
  refine lv_aload_n hx hb di_Heard_4 rfl (lv_at hl 0 rfl) ?_
  refine va_new (ci := 4) (fs := [.null]) (C := "GoingDark$Row") (T := Tf4) (N := 1) hx hb hts lay4 tf4 tfo4 hown (hts _ (gw1 147 rfl rfl)) (hts _ (gw1 31 rfl rfl)) (hts _ (gw1 3 rfl rfl)) hK hP hD hS hA rfl (fun j hj => by rcases (show j = 0 by omega) with rfl; rfl) (Nat.le_of_ble_eq_true rfl) (Nat.le_of_ble_eq_true rfl) di_Heard_5 (fun q1 H hP hD hS => ?_)
  refine W.widen (k := 1) (n := 1) (Nat.le_of_ble_eq_true rfl) (Nat.le_of_ble_eq_true rfl) ?_
  refine lv_dup hx hb di_Heard_8 rfl ?_
  refine lv_bipush (v := 8) hx hb di_Heard_9 (by decide) ?_
  refine mk_call (q := q1) (rest := [.ref q1, .ref h0]) [.int 8] hx hb hml hown hts hNW hK hP hD hS hA (ct_Row_8 D cI) mdN_Row rfl (gw1 148 rfl rfl) rfl rfl ⟨Nat.le_of_ble_eq_true rfl, Nat.le_of_ble_eq_true rfl⟩ hl.1 (Nat.le_of_ble_eq_true rfl) ⟨Nat.le_of_ble_eq_true rfl, Nat.le_of_ble_eq_true rfl⟩ di_Heard_11 (fun f1 H locs hP hD hS => ?_)
  refine W.widen (k := 2) (n := 9) (Nat.le_of_ble_eq_true rfl) (Nat.le_of_ble_eq_true rfl) ?_
  have hP : va_P D cls ((h0, .inr (1, [.null, .null, .null, .null, .null, .null, .int 0])) :: (([] : va_W) ++ wRow cI 8 f1 q1)) H := hP
  have hD : va_D A ((h0, .inr (1, [.null, .null, .null, .null, .null, .null, .int 0])) :: (([] : va_W) ++ wRow cI 8 f1 q1)) := hD
  refine va_putF (D := D) (ci := 1) (v := .ref q1) (ty := (.object "GoingDark$Row")) (C := "GoingDark$Heard") (T := Tf1) (N := 7) hx hb hts lay1 tf1 tfo1 nf1 hown hK hP hD hS 0 rfl rfl 1 (by decide) (hts _ (gw1 150 rfl rfl)) (fun _ h9 => h9) rfl hin rfl (by decide +kernel) rfl rfl (Nat.le_of_ble_eq_true rfl) di_Heard_14 (fun H locs hP hD hS => ?_)
  have hP : va_P D cls ((h0, .inr (1, [.null, .ref q1, .null, .null, .null, .null, .int 0])) :: (([] : va_W) ++ wRow cI 8 f1 q1)) H := hP
  have hD : va_D A ((h0, .inr (1, [.null, .ref q1, .null, .null, .null, .null, .int 0])) :: (([] : va_W) ++ wRow cI 8 f1 q1)) := hD
  refine lv_aload_n hx hb di_Heard_17 rfl (lv_at hl 0 rfl) ?_
  refine va_new (ci := 4) (fs := [.null]) (C := "GoingDark$Row") (T := Tf4) (N := 1) hx hb hts lay4 tf4 tfo4 hown (hts _ (gw1 147 rfl rfl)) (hts _ (gw1 31 rfl rfl)) (hts _ (gw1 3 rfl rfl)) hK hP hD hS hA rfl (fun j hj => by rcases (show j = 0 by omega) with rfl; rfl) (Nat.le_of_ble_eq_true rfl) (Nat.le_of_ble_eq_true rfl) di_Heard_18 (fun q2 H hP hD hS => ?_)
  refine W.widen (k := 3) (n := 10) (Nat.le_of_ble_eq_true rfl) (Nat.le_of_ble_eq_true rfl) ?_
  refine lv_dup hx hb di_Heard_21 rfl ?_
  refine lv_bipush (v := 8) hx hb di_Heard_22 (by decide) ?_
  refine mk_call (q := q2) (rest := [.ref q2, .ref h0]) [.int 8] hx hb hml hown hts hNW hK hP hD hS hA (ct_Row_8 D cI) mdN_Row rfl (gw1 148 rfl rfl) rfl rfl ⟨Nat.le_of_ble_eq_true rfl, Nat.le_of_ble_eq_true rfl⟩ hl.1 (Nat.le_of_ble_eq_true rfl) ⟨Nat.le_of_ble_eq_true rfl, Nat.le_of_ble_eq_true rfl⟩ di_Heard_24 (fun f2 H locs hP hD hS => ?_)
  refine W.widen (k := 4) (n := 18) (Nat.le_of_ble_eq_true rfl) (Nat.le_of_ble_eq_true rfl) ?_
  have hP : va_P D cls ((h0, .inr (1, [.null, .ref q1, .null, .null, .null, .null, .int 0])) :: ((([] : va_W) ++ wRow cI 8 f1 q1) ++ wRow cI 8 f2 q2)) H := hP
  have hD : va_D A ((h0, .inr (1, [.null, .ref q1, .null, .null, .null, .null, .int 0])) :: ((([] : va_W) ++ wRow cI 8 f1 q1) ++ wRow cI 8 f2 q2)) := hD
  refine va_putF (D := D) (ci := 1) (v := .ref q2) (ty := (.object "GoingDark$Row")) (C := "GoingDark$Heard") (T := Tf1) (N := 7) hx hb hts lay1 tf1 tfo1 nf1 hown hK hP hD hS 0 rfl rfl 2 (by decide) (hts _ (gw1 151 rfl rfl)) (fun _ h9 => h9) rfl hin rfl (by decide +kernel) rfl rfl (Nat.le_of_ble_eq_true rfl) di_Heard_27 (fun H locs hP hD hS => ?_)
  have hP : va_P D cls ((h0, .inr (1, [.null, .ref q1, .ref q2, .null, .null, .null, .int 0])) :: ((([] : va_W) ++ wRow cI 8 f1 q1) ++ wRow cI 8 f2 q2)) H := hP
  have hD : va_D A ((h0, .inr (1, [.null, .ref q1, .ref q2, .null, .null, .null, .int 0])) :: ((([] : va_W) ++ wRow cI 8 f1 q1) ++ wRow cI 8 f2 q2)) := hD
  refine lv_aload_n hx hb di_Heard_30 rfl (lv_at hl 0 rfl) ?_
  refine va_new (ci := 4) (fs := [.null]) (C := "GoingDark$Row") (T := Tf4) (N := 1) hx hb hts lay4 tf4 tfo4 hown (hts _ (gw1 147 rfl rfl)) (hts _ (gw1 31 rfl rfl)) (hts _ (gw1 3 rfl rfl)) hK hP hD hS hA rfl (fun j hj => by rcases (show j = 0 by omega) with rfl; rfl) (Nat.le_of_ble_eq_true rfl) (Nat.le_of_ble_eq_true rfl) di_Heard_31 (fun q3 H hP hD hS => ?_)
  refine W.widen (k := 5) (n := 19) (Nat.le_of_ble_eq_true rfl) (Nat.le_of_ble_eq_true rfl) ?_
  refine lv_dup hx hb di_Heard_34 rfl ?_
  refine lv_bipush (v := 8) hx hb di_Heard_35 (by decide) ?_
  refine mk_call (q := q3) (rest := [.ref q3, .ref h0]) [.int 8] hx hb hml hown hts hNW hK hP hD hS hA (ct_Row_8 D cI) mdN_Row rfl (gw1 148 rfl rfl) rfl rfl ⟨Nat.le_of_ble_eq_true rfl, Nat.le_of_ble_eq_true rfl⟩ hl.1 (Nat.le_of_ble_eq_true rfl) ⟨Nat.le_of_ble_eq_true rfl, Nat.le_of_ble_eq_true rfl⟩ di_Heard_37 (fun f3 H locs hP hD hS => ?_)
  refine W.widen (k := 6) (n := 27) (Nat.le_of_ble_eq_true rfl) (Nat.le_of_ble_eq_true rfl) ?_
  have hP : va_P D cls ((h0, .inr (1, [.null, .ref q1, .ref q2, .null, .null, .null, .int 0])) :: (((([] : va_W) ++ wRow cI 8 f1 q1) ++ wRow cI 8 f2 q2) ++ wRow cI 8 f3 q3)) H := hP
  have hD : va_D A ((h0, .inr (1, [.null, .ref q1, .ref q2, .null, .null, .null, .int 0])) :: (((([] : va_W) ++ wRow cI 8 f1 q1) ++ wRow cI 8 f2 q2) ++ wRow cI 8 f3 q3)) := hD
  refine va_putF (D := D) (ci := 1) (v := .ref q3) (ty := (.object "GoingDark$Row")) (C := "GoingDark$Heard") (T := Tf1) (N := 7) hx hb hts lay1 tf1 tfo1 nf1 hown hK hP hD hS 0 rfl rfl 3 (by decide) (hts _ (gw1 152 rfl rfl)) (fun _ h9 => h9) rfl hin rfl (by decide +kernel) rfl rfl (Nat.le_of_ble_eq_true rfl) di_Heard_40 (fun H locs hP hD hS => ?_)
  have hP : va_P D cls ((h0, .inr (1, [.null, .ref q1, .ref q2, .ref q3, .null, .null, .int 0])) :: (((([] : va_W) ++ wRow cI 8 f1 q1) ++ wRow cI 8 f2 q2) ++ wRow cI 8 f3 q3)) H := hP
  have hD : va_D A ((h0, .inr (1, [.null, .ref q1, .ref q2, .ref q3, .null, .null, .int 0])) :: (((([] : va_W) ++ wRow cI 8 f1 q1) ++ wRow cI 8 f2 q2) ++ wRow cI 8 f3 q3)) := hD
  refine lv_aload_n hx hb di_Heard_43 rfl (lv_at hl 0 rfl) ?_
  refine va_new (ci := 4) (fs := [.null]) (C := "GoingDark$Row") (T := Tf4) (N := 1) hx hb hts lay4 tf4 tfo4 hown (hts _ (gw1 147 rfl rfl)) (hts _ (gw1 31 rfl rfl)) (hts _ (gw1 3 rfl rfl)) hK hP hD hS hA rfl (fun j hj => by rcases (show j = 0 by omega) with rfl; rfl) (Nat.le_of_ble_eq_true rfl) (Nat.le_of_ble_eq_true rfl) di_Heard_44 (fun q4 H hP hD hS => ?_)
  refine W.widen (k := 7) (n := 28) (Nat.le_of_ble_eq_true rfl) (Nat.le_of_ble_eq_true rfl) ?_
  refine lv_dup hx hb di_Heard_47 rfl ?_
  refine lv_bipush (v := 8) hx hb di_Heard_48 (by decide) ?_
  refine mk_call (q := q4) (rest := [.ref q4, .ref h0]) [.int 8] hx hb hml hown hts hNW hK hP hD hS hA (ct_Row_8 D cI) mdN_Row rfl (gw1 148 rfl rfl) rfl rfl ⟨Nat.le_of_ble_eq_true rfl, Nat.le_of_ble_eq_true rfl⟩ hl.1 (Nat.le_of_ble_eq_true rfl) ⟨Nat.le_of_ble_eq_true rfl, Nat.le_of_ble_eq_true rfl⟩ di_Heard_50 (fun f4 H locs hP hD hS => ?_)
  refine W.widen (k := 8) (n := 36) (Nat.le_of_ble_eq_true rfl) (Nat.le_of_ble_eq_true rfl) ?_
  have hP : va_P D cls ((h0, .inr (1, [.null, .ref q1, .ref q2, .ref q3, .null, .null, .int 0])) :: ((((([] : va_W) ++ wRow cI 8 f1 q1) ++ wRow cI 8 f2 q2) ++ wRow cI 8 f3 q3) ++ wRow cI 8 f4 q4)) H := hP
  have hD : va_D A ((h0, .inr (1, [.null, .ref q1, .ref q2, .ref q3, .null, .null, .int 0])) :: ((((([] : va_W) ++ wRow cI 8 f1 q1) ++ wRow cI 8 f2 q2) ++ wRow cI 8 f3 q3) ++ wRow cI 8 f4 q4)) := hD
  refine va_putF (D := D) (ci := 1) (v := .ref q4) (ty := (.object "GoingDark$Row")) (C := "GoingDark$Heard") (T := Tf1) (N := 7) hx hb hts lay1 tf1 tfo1 nf1 hown hK hP hD hS 0 rfl rfl 4 (by decide) (hts _ (gw1 153 rfl rfl)) (fun _ h9 => h9) rfl hin rfl (by decide +kernel) rfl rfl (Nat.le_of_ble_eq_true rfl) di_Heard_53 (fun H locs hP hD hS => ?_)
  have hP : va_P D cls ((h0, .inr (1, [.null, .ref q1, .ref q2, .ref q3, .ref q4, .null, .int 0])) :: ((((([] : va_W) ++ wRow cI 8 f1 q1) ++ wRow cI 8 f2 q2) ++ wRow cI 8 f3 q3) ++ wRow cI 8 f4 q4)) H := hP
  have hD : va_D A ((h0, .inr (1, [.null, .ref q1, .ref q2, .ref q3, .ref q4, .null, .int 0])) :: ((((([] : va_W) ++ wRow cI 8 f1 q1) ++ wRow cI 8 f2 q2) ++ wRow cI 8 f3 q3) ++ wRow cI 8 f4 q4)) := hD
  refine lv_aload_n hx hb di_Heard_56 rfl (lv_at hl 0 rfl) ?_
  refine va_new (ci := 4) (fs := [.null]) (C := "GoingDark$Row") (T := Tf4) (N := 1) hx hb hts lay4 tf4 tfo4 hown (hts _ (gw1 147 rfl rfl)) (hts _ (gw1 31 rfl rfl)) (hts _ (gw1 3 rfl rfl)) hK hP hD hS hA rfl (fun j hj => by rcases (show j = 0 by omega) with rfl; rfl) (Nat.le_of_ble_eq_true rfl) (Nat.le_of_ble_eq_true rfl) di_Heard_57 (fun q5 H hP hD hS => ?_)
  refine W.widen (k := 9) (n := 37) (Nat.le_of_ble_eq_true rfl) (Nat.le_of_ble_eq_true rfl) ?_
  refine lv_dup hx hb di_Heard_60 rfl ?_
  refine lv_bipush (v := 8) hx hb di_Heard_61 (by decide) ?_
  refine mk_call (q := q5) (rest := [.ref q5, .ref h0]) [.int 8] hx hb hml hown hts hNW hK hP hD hS hA (ct_Row_8 D cI) mdN_Row rfl (gw1 148 rfl rfl) rfl rfl ⟨Nat.le_of_ble_eq_true rfl, Nat.le_of_ble_eq_true rfl⟩ hl.1 (Nat.le_of_ble_eq_true rfl) ⟨Nat.le_of_ble_eq_true rfl, Nat.le_of_ble_eq_true rfl⟩ di_Heard_63 (fun f5 H locs hP hD hS => ?_)
  refine W.widen (k := 10) (n := 45) (Nat.le_of_ble_eq_true rfl) (Nat.le_of_ble_eq_true rfl) ?_
  have hP : va_P D cls ((h0, .inr (1, [.null, .ref q1, .ref q2, .ref q3, .ref q4, .null, .int 0])) :: (((((([] : va_W) ++ wRow cI 8 f1 q1) ++ wRow cI 8 f2 q2) ++ wRow cI 8 f3 q3) ++ wRow cI 8 f4 q4) ++ wRow cI 8 f5 q5)) H := hP
  have hD : va_D A ((h0, .inr (1, [.null, .ref q1, .ref q2, .ref q3, .ref q4, .null, .int 0])) :: (((((([] : va_W) ++ wRow cI 8 f1 q1) ++ wRow cI 8 f2 q2) ++ wRow cI 8 f3 q3) ++ wRow cI 8 f4 q4) ++ wRow cI 8 f5 q5)) := hD
  refine va_putF (D := D) (ci := 1) (v := .ref q5) (ty := (.object "GoingDark$Row")) (C := "GoingDark$Heard") (T := Tf1) (N := 7) hx hb hts lay1 tf1 tfo1 nf1 hown hK hP hD hS 0 rfl rfl 5 (by decide) (hts _ (gw1 154 rfl rfl)) (fun _ h9 => h9) rfl hin rfl (by decide +kernel) rfl rfl (Nat.le_of_ble_eq_true rfl) di_Heard_66 (fun H locs hP hD hS => ?_)
  have hP : va_P D cls ((h0, .inr (1, [.null, .ref q1, .ref q2, .ref q3, .ref q4, .ref q5, .int 0])) :: (((((([] : va_W) ++ wRow cI 8 f1 q1) ++ wRow cI 8 f2 q2) ++ wRow cI 8 f3 q3) ++ wRow cI 8 f4 q4) ++ wRow cI 8 f5 q5)) H := hP
  have hD : va_D A ((h0, .inr (1, [.null, .ref q1, .ref q2, .ref q3, .ref q4, .ref q5, .int 0])) :: (((((([] : va_W) ++ wRow cI 8 f1 q1) ++ wRow cI 8 f2 q2) ++ wRow cI 8 f3 q3) ++ wRow cI 8 f4 q4) ++ wRow cI 8 f5 q5)) := hD
  refine lv_aload_n hx hb di_Heard_69 rfl (lv_at hl 0 rfl) ?_
  refine lv_iconst (v := 0) hx hb di_Heard_70 (by decide) ?_
  refine va_put (D := D) (ci := 1) (v := .int 0) (ty := .int) (C := "GoingDark$Heard") (T := Tf1) (N := 7) hx hb hts lay1 tf1 tfo1 nf1 hown hK hP hD hS 0 rfl rfl 6 (by decide) (hts _ (gw1 155 rfl rfl)) (fun _ h9 => h9) rfl (by decide +kernel) rfl rfl (Nat.le_of_ble_eq_true rfl) di_Heard_71 (fun H locs hP hD hS => ?_)
  have hP : va_P D cls ((h0, .inr (1, [.null, .ref q1, .ref q2, .ref q3, .ref q4, .ref q5, .int 0])) :: (((((([] : va_W) ++ wRow cI 8 f1 q1) ++ wRow cI 8 f2 q2) ++ wRow cI 8 f3 q3) ++ wRow cI 8 f4 q4) ++ wRow cI 8 f5 q5)) H := hP
  have hD : va_D A ((h0, .inr (1, [.null, .ref q1, .ref q2, .ref q3, .ref q4, .ref q5, .int 0])) :: (((((([] : va_W) ++ wRow cI 8 f1 q1) ++ wRow cI 8 f2 q2) ++ wRow cI 8 f3 q3) ++ wRow cI 8 f4 q4) ++ wRow cI 8 f5 q5)) := hD
  refine lv_aload_n hx hb di_Heard_74 rfl (lv_at hl 0 rfl) ?_
  refine lv_aload_n hx hb di_Heard_75 rfl (lv_at hl 1 rfl) ?_
  refine va_putF (D := D) (ci := 1) (v := .ref st) (ty := (.object "GoingDark$Strait")) (C := "GoingDark$Heard") (T := Tf1) (N := 7) hx hb hts lay1 tf1 tfo1 nf1 hown hK hP hD hS 0 rfl rfl 0 (by decide) (hts _ (gw1 149 rfl rfl)) (fun _ h9 => h9) rfl hin rfl (by decide +kernel) rfl rfl (Nat.le_of_ble_eq_true rfl) di_Heard_76 (fun H locs hP hD hS => ?_)
  have hP : va_P D cls ((h0, .inr (1, [.ref st, .ref q1, .ref q2, .ref q3, .ref q4, .ref q5, .int 0])) :: (((((([] : va_W) ++ wRow cI 8 f1 q1) ++ wRow cI 8 f2 q2) ++ wRow cI 8 f3 q3) ++ wRow cI 8 f4 q4) ++ wRow cI 8 f5 q5)) H := hP
  have hD : va_D A ((h0, .inr (1, [.ref st, .ref q1, .ref q2, .ref q3, .ref q4, .ref q5, .int 0])) :: (((((([] : va_W) ++ wRow cI 8 f1 q1) ++ wRow cI 8 f2 q2) ++ wRow cI 8 f3 q3) ++ wRow cI 8 f4 q4) ++ wRow cI 8 f5 q5)) := hD
  exact fin 79 H locs ls (adr [q1, q2, q3, q4, q5, f1 0, f2 0, f3 0, f4 0, f5 0]) di_Heard_79 hP hD hS
theorem di_Draws_0 : decode md_Draws_init.2.1 0 = .ok (.aload_n 0, 1) := by decide +kernel
theorem di_Draws_1 : decode md_Draws_init.2.1 1 = .ok (.invokespecial 1, 3) := by decide +kernel
theorem di_Draws_4 : decode md_Draws_init.2.1 4 = .ok (.aload_n 0, 1) := by decide +kernel
theorem di_Draws_5 : decode md_Draws_init.2.1 5 = .ok (.iconst 0, 1) := by decide +kernel
theorem di_Draws_6 : decode md_Draws_init.2.1 6 = .ok (.putfield 7, 3) := by decide +kernel
theorem di_Draws_9 : decode md_Draws_init.2.1 9 = .ok (.return_, 1) := by decide +kernel
def rmDraws : Room := { frames := 1, cells := 0, slots := 0, locals := 20 }
def wDraws (cI : ClassId) (f : Nat → Nat) (h : Nat) : va_W := [(h, .inr (0, [.int 0]))]
set_option maxHeartbeats 4000000 in
set_option maxRecDepth 100000 in
theorem ct_Draws_init (D : va_G) (cI : ClassId) : CtN rmDraws md_Draws_init [] D cI 0 [.int 0] 0 0 (wDraws cI) := by
  refine CtN_of 0 rfl rfl rfl (fun _ => Nat.le_of_ble_eq_true rfl) ?_
  intro p l e s m args below meth c h0 A ls Q hx hb hml hown hin hts hNW hK hP hD hA hl fin
  have hS : va_S A s.heap s.heap [] := va_S.rf
  have hl : lv_has ls 1 [(0, .ref h0)] := hl
  have hP : va_P D cls ((h0, .inr (0, [.int 0])) :: ([] : va_W)) s.heap := hP
  have hD : va_D A ((h0, .inr (0, [.int 0])) :: ([] : va_W)) := hD
  refine lv_aload_n hx hb di_Draws_0 rfl (lv_at hl 0 rfl) ?_
  refine W.objInit hx hb hown (hts _ (gw1 177 rfl rfl)) (hts _ (gw1 22 rfl rfl)) (hts _ (gw1 23 rfl rfl)) rfl (by rw [hml]; exact hl.1) rfl di_Draws_1 (Nat.le_of_ble_eq_true rfl) (Nat.le_of_ble_eq_true rfl) ?_
  refine W.eq (g2 := F0 m 4 ls []) rfl ?_
  refine lv_aload_n hx hb di_Draws_4 rfl (lv_at hl 0 rfl) ?_
  refine lv_iconst (v := 0) hx hb di_Draws_5 (by decide) ?_
  refine va_put (D := D) (ci := 0) (v := .int 0) (ty := .int) (C := "GoingDark$Draws") (T := Tf0) (N := 1) hx hb hts lay0 tf0 tfo0 nf0 hown hK hP hD hS 0 rfl rfl 0 (by decide) (hts _ (gw1 178 rfl rfl)) (fun _ h9 => h9) rfl (by decide +kernel) rfl rfl (Nat.le_of_ble_eq_true rfl) di_Draws_6 (fun H locs hP hD hS => ?_)
  have hP : va_P D cls ((h0, .inr (0, [.int 0])) :: ([] : va_W)) H := hP
  have hD : va_D A ((h0, .inr (0, [.int 0])) :: ([] : va_W)) := hD
  exact fin 9 H locs ls (adr []) di_Draws_9 hP hD hS
