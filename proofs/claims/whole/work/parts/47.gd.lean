/-! ===== GoingDark's constructor ===== -/
theorem di_GD_0 : decode md_GD_init.2.1 0 = .ok (.aload_n 0, 1) := by decide +kernel
theorem di_GD_1 : decode md_GD_init.2.1 1 = .ok (.invokespecial 1, 3) := by decide +kernel
theorem di_GD_4 : decode md_GD_init.2.1 4 = .ok (.aload_n 0, 1) := by decide +kernel
theorem di_GD_5 : decode md_GD_init.2.1 5 = .ok (.new 7, 3) := by decide +kernel
theorem di_GD_8 : decode md_GD_init.2.1 8 = .ok (.dup, 1) := by decide +kernel
theorem di_GD_9 : decode md_GD_init.2.1 9 = .ok (.invokespecial 9, 3) := by decide +kernel
theorem di_GD_12 : decode md_GD_init.2.1 12 = .ok (.putfield 10, 3) := by decide +kernel
theorem di_GD_15 : decode md_GD_init.2.1 15 = .ok (.aload_n 0, 1) := by decide +kernel
theorem di_GD_16 : decode md_GD_init.2.1 16 = .ok (.new 16, 3) := by decide +kernel
theorem di_GD_19 : decode md_GD_init.2.1 19 = .ok (.dup, 1) := by decide +kernel
theorem di_GD_20 : decode md_GD_init.2.1 20 = .ok (.invokespecial 18, 3) := by decide +kernel
theorem di_GD_23 : decode md_GD_init.2.1 23 = .ok (.putfield 19, 3) := by decide +kernel
theorem di_GD_26 : decode md_GD_init.2.1 26 = .ok (.aload_n 0, 1) := by decide +kernel
theorem di_GD_27 : decode md_GD_init.2.1 27 = .ok (.new 23, 3) := by decide +kernel
theorem di_GD_30 : decode md_GD_init.2.1 30 = .ok (.dup, 1) := by decide +kernel
theorem di_GD_31 : decode md_GD_init.2.1 31 = .ok (.aload_n 0, 1) := by decide +kernel
theorem di_GD_32 : decode md_GD_init.2.1 32 = .ok (.getfield 19, 3) := by decide +kernel
theorem di_GD_35 : decode md_GD_init.2.1 35 = .ok (.invokespecial 25, 3) := by decide +kernel
theorem di_GD_38 : decode md_GD_init.2.1 38 = .ok (.putfield 28, 3) := by decide +kernel
theorem di_GD_41 : decode md_GD_init.2.1 41 = .ok (.aload_n 0, 1) := by decide +kernel
theorem di_GD_42 : decode md_GD_init.2.1 42 = .ok (.new 23, 3) := by decide +kernel
theorem di_GD_45 : decode md_GD_init.2.1 45 = .ok (.dup, 1) := by decide +kernel
theorem di_GD_46 : decode md_GD_init.2.1 46 = .ok (.aload_n 0, 1) := by decide +kernel
theorem di_GD_47 : decode md_GD_init.2.1 47 = .ok (.getfield 19, 3) := by decide +kernel
theorem di_GD_50 : decode md_GD_init.2.1 50 = .ok (.invokespecial 25, 3) := by decide +kernel
theorem di_GD_53 : decode md_GD_init.2.1 53 = .ok (.putfield 32, 3) := by decide +kernel
theorem di_GD_56 : decode md_GD_init.2.1 56 = .ok (.aload_n 0, 1) := by decide +kernel
theorem di_GD_57 : decode md_GD_init.2.1 57 = .ok (.new 23, 3) := by decide +kernel
theorem di_GD_60 : decode md_GD_init.2.1 60 = .ok (.dup, 1) := by decide +kernel
theorem di_GD_61 : decode md_GD_init.2.1 61 = .ok (.aload_n 0, 1) := by decide +kernel
theorem di_GD_62 : decode md_GD_init.2.1 62 = .ok (.getfield 19, 3) := by decide +kernel
theorem di_GD_65 : decode md_GD_init.2.1 65 = .ok (.invokespecial 25, 3) := by decide +kernel
theorem di_GD_68 : decode md_GD_init.2.1 68 = .ok (.putfield 35, 3) := by decide +kernel
theorem di_GD_71 : decode md_GD_init.2.1 71 = .ok (.aload_n 0, 1) := by decide +kernel
theorem di_GD_72 : decode md_GD_init.2.1 72 = .ok (.new 38, 3) := by decide +kernel
theorem di_GD_75 : decode md_GD_init.2.1 75 = .ok (.dup, 1) := by decide +kernel
theorem di_GD_76 : decode md_GD_init.2.1 76 = .ok (.aload_n 0, 1) := by decide +kernel
theorem di_GD_77 : decode md_GD_init.2.1 77 = .ok (.getfield 19, 3) := by decide +kernel
theorem di_GD_80 : decode md_GD_init.2.1 80 = .ok (.invokespecial 40, 3) := by decide +kernel
theorem di_GD_83 : decode md_GD_init.2.1 83 = .ok (.putfield 41, 3) := by decide +kernel
theorem di_GD_86 : decode md_GD_init.2.1 86 = .ok (.aload_n 0, 1) := by decide +kernel
theorem di_GD_87 : decode md_GD_init.2.1 87 = .ok (.new 38, 3) := by decide +kernel
theorem di_GD_90 : decode md_GD_init.2.1 90 = .ok (.dup, 1) := by decide +kernel
theorem di_GD_91 : decode md_GD_init.2.1 91 = .ok (.aload_n 0, 1) := by decide +kernel
theorem di_GD_92 : decode md_GD_init.2.1 92 = .ok (.getfield 19, 3) := by decide +kernel
theorem di_GD_95 : decode md_GD_init.2.1 95 = .ok (.invokespecial 40, 3) := by decide +kernel
theorem di_GD_98 : decode md_GD_init.2.1 98 = .ok (.putfield 45, 3) := by decide +kernel
theorem di_GD_101 : decode md_GD_init.2.1 101 = .ok (.aload_n 0, 1) := by decide +kernel
theorem di_GD_102 : decode md_GD_init.2.1 102 = .ok (.new 48, 3) := by decide +kernel
theorem di_GD_105 : decode md_GD_init.2.1 105 = .ok (.dup, 1) := by decide +kernel
theorem di_GD_106 : decode md_GD_init.2.1 106 = .ok (.invokespecial 50, 3) := by decide +kernel
theorem di_GD_109 : decode md_GD_init.2.1 109 = .ok (.putfield 51, 3) := by decide +kernel
theorem di_GD_112 : decode md_GD_init.2.1 112 = .ok (.aload_n 0, 1) := by decide +kernel
theorem di_GD_113 : decode md_GD_init.2.1 113 = .ok (.iconst 0, 1) := by decide +kernel
theorem di_GD_114 : decode md_GD_init.2.1 114 = .ok (.putfield 55, 3) := by decide +kernel
theorem di_GD_117 : decode md_GD_init.2.1 117 = .ok (.aload_n 0, 1) := by decide +kernel
theorem di_GD_118 : decode md_GD_init.2.1 118 = .ok (.iconst 0, 1) := by decide +kernel
theorem di_GD_119 : decode md_GD_init.2.1 119 = .ok (.putfield 59, 3) := by decide +kernel
theorem di_GD_122 : decode md_GD_init.2.1 122 = .ok (.return_, 1) := by decide +kernel
def rmGD : Room := { frames := 3, cells := 72, slots := 275, locals := 70 }
def wGD (cI : ClassId) (f : Nat → Nat) (h : Nat) : va_W := [(h, .inr (6, [.ref (f 1), .ref (f 2), .ref (f 3), .ref (f 4), .ref (f 5), .ref (f 6), .ref (f 7), .ref (f 8), .int 0, .int 0])),
  (f 1, .inr (3, [.ref (f 9), .int 0])),
  (f 9, .inr (4, [.ref (f 41)])),
  (f 41, .inl (cI, 18, .inl (fun _ => 0))),
  (f 2, .inr (5, [.ref (f 10), .ref (f 11), .ref (f 12), .int 0, .int 0, .int 0])),
  (f 10, .inr (4, [.ref (f 42)])),
  (f 42, .inl (cI, 5, .inl (fun _ => 0))),
  (f 11, .inr (4, [.ref (f 43)])),
  (f 43, .inl (cI, 5, .inl (fun _ => 0))),
  (f 12, .inr (4, [.ref (f 44)])),
  (f 44, .inl (cI, 10, .inl (fun _ => 0))),
  (f 3, .inr (2, [.ref (f 2), .ref (f 13), .ref (f 14), .ref (f 15), .ref (f 16), .ref (f 17), .ref (f 18), .int 0, .int 0, .int 0])),
  (f 13, .inr (4, [.ref (f 45)])),
  (f 45, .inl (cI, 3, .inl (fun _ => 0))),
  (f 14, .inr (4, [.ref (f 46)])),
  (f 46, .inl (cI, 3, .inl (fun _ => 0))),
  (f 15, .inr (4, [.ref (f 47)])),
  (f 47, .inl (cI, 3, .inl (fun _ => 0))),
  (f 16, .inr (4, [.ref (f 48)])),
  (f 48, .inl (cI, 5, .inl (fun _ => 0))),
  (f 17, .inr (4, [.ref (f 49)])),
  (f 49, .inl (cI, 5, .inl (fun _ => 0))),
  (f 18, .inr (4, [.ref (f 50)])),
  (f 50, .inl (cI, 5, .inl (fun _ => 0))),
  (f 4, .inr (2, [.ref (f 2), .ref (f 19), .ref (f 20), .ref (f 21), .ref (f 22), .ref (f 23), .ref (f 24), .int 0, .int 0, .int 0])),
  (f 19, .inr (4, [.ref (f 51)])),
  (f 51, .inl (cI, 3, .inl (fun _ => 0))),
  (f 20, .inr (4, [.ref (f 52)])),
  (f 52, .inl (cI, 3, .inl (fun _ => 0))),
  (f 21, .inr (4, [.ref (f 53)])),
  (f 53, .inl (cI, 3, .inl (fun _ => 0))),
  (f 22, .inr (4, [.ref (f 54)])),
  (f 54, .inl (cI, 5, .inl (fun _ => 0))),
  (f 23, .inr (4, [.ref (f 55)])),
  (f 55, .inl (cI, 5, .inl (fun _ => 0))),
  (f 24, .inr (4, [.ref (f 56)])),
  (f 56, .inl (cI, 5, .inl (fun _ => 0))),
  (f 5, .inr (2, [.ref (f 2), .ref (f 25), .ref (f 26), .ref (f 27), .ref (f 28), .ref (f 29), .ref (f 30), .int 0, .int 0, .int 0])),
  (f 25, .inr (4, [.ref (f 57)])),
  (f 57, .inl (cI, 3, .inl (fun _ => 0))),
  (f 26, .inr (4, [.ref (f 58)])),
  (f 58, .inl (cI, 3, .inl (fun _ => 0))),
  (f 27, .inr (4, [.ref (f 59)])),
  (f 59, .inl (cI, 3, .inl (fun _ => 0))),
  (f 28, .inr (4, [.ref (f 60)])),
  (f 60, .inl (cI, 5, .inl (fun _ => 0))),
  (f 29, .inr (4, [.ref (f 61)])),
  (f 61, .inl (cI, 5, .inl (fun _ => 0))),
  (f 30, .inr (4, [.ref (f 62)])),
  (f 62, .inl (cI, 5, .inl (fun _ => 0))),
  (f 6, .inr (1, [.ref (f 2), .ref (f 31), .ref (f 32), .ref (f 33), .ref (f 34), .ref (f 35), .int 0])),
  (f 31, .inr (4, [.ref (f 63)])),
  (f 63, .inl (cI, 8, .inl (fun _ => 0))),
  (f 32, .inr (4, [.ref (f 64)])),
  (f 64, .inl (cI, 8, .inl (fun _ => 0))),
  (f 33, .inr (4, [.ref (f 65)])),
  (f 65, .inl (cI, 8, .inl (fun _ => 0))),
  (f 34, .inr (4, [.ref (f 66)])),
  (f 66, .inl (cI, 8, .inl (fun _ => 0))),
  (f 35, .inr (4, [.ref (f 67)])),
  (f 67, .inl (cI, 8, .inl (fun _ => 0))),
  (f 7, .inr (1, [.ref (f 2), .ref (f 36), .ref (f 37), .ref (f 38), .ref (f 39), .ref (f 40), .int 0])),
  (f 36, .inr (4, [.ref (f 68)])),
  (f 68, .inl (cI, 8, .inl (fun _ => 0))),
  (f 37, .inr (4, [.ref (f 69)])),
  (f 69, .inl (cI, 8, .inl (fun _ => 0))),
  (f 38, .inr (4, [.ref (f 70)])),
  (f 70, .inl (cI, 8, .inl (fun _ => 0))),
  (f 39, .inr (4, [.ref (f 71)])),
  (f 71, .inl (cI, 8, .inl (fun _ => 0))),
  (f 40, .inr (4, [.ref (f 72)])),
  (f 72, .inl (cI, 8, .inl (fun _ => 0))),
  (f 8, .inr (0, [.int 0]))]
set_option maxHeartbeats 4000000 in
set_option maxRecDepth 100000 in
theorem ct_GD_init (D : va_G) (cI : ClassId) : CtN rmGD md_GD_init [] D cI 6 [.null, .null, .null, .null, .null, .null, .null, .null, .int 0, .int 0] 72 275 (wGD cI) := by
  refine CtN_of 6 rfl rfl rfl (fun _ => Nat.le_of_ble_eq_true rfl) ?_
  intro p l e s m args below meth c h0 A ls Q hx hb hml hown hin hts hNW hK hP hD hA hl fin
  have hS : va_S A s.heap s.heap [] := va_S.rf
  have hl : lv_has ls 1 [(0, .ref h0)] := hl
  have hP : va_P D cls ((h0, .inr (6, [.null, .null, .null, .null, .null, .null, .null, .null, .int 0, .int 0])) :: ([] : va_W)) s.heap := hP
  have hD : va_D A ((h0, .inr (6, [.null, .null, .null, .null, .null, .null, .null, .null, .int 0, .int 0])) :: ([] : va_W)) := hD
  refine lv_aload_n hx hb di_GD_0 rfl (lv_at hl 0 rfl) ?_
  refine W.objInit hx hb hown (hts _ (gw1 21 rfl rfl)) (hts _ (gw1 22 rfl rfl)) (hts _ (gw1 23 rfl rfl)) rfl (by rw [hml]; exact hl.1) rfl di_GD_1 (Nat.le_of_ble_eq_true rfl) (Nat.le_of_ble_eq_true rfl) ?_
  refine W.eq (g2 := F0 m 4 ls []) rfl ?_
  refine lv_aload_n hx hb di_GD_4 rfl (lv_at hl 0 rfl) ?_
  refine va_new (ci := 3) (fs := [.null, .int 0]) (C := "GoingDark$Page") (T := Tf3) (N := 2) hx hb hts lay3 tf3 tfo3 hown (hts _ (gw1 24 rfl rfl)) (hts _ (gw1 25 rfl rfl)) (hts _ (gw1 2 rfl rfl)) hK hP hD hS hA rfl (fun j hj => by rcases (show j = 0 ∨ j = 1 by omega) with rfl | rfl <;> rfl) (Nat.le_of_ble_eq_true rfl) (Nat.le_of_ble_eq_true rfl) di_GD_5 (fun q1 H hP hD hS => ?_)
  refine W.widen (k := 1) (n := 2) (Nat.le_of_ble_eq_true rfl) (Nat.le_of_ble_eq_true rfl) ?_
  refine lv_dup hx hb di_GD_8 rfl ?_
  refine mk_callN (q := q1) (rest := [.ref q1, .ref h0]) [] hx hb hml hown hts hNW hK hP hD hS hA (ct_Page_init D cI) mdN_Page rfl (nw1 26 rfl rfl) rfl rfl ⟨Nat.le_of_ble_eq_true rfl, Nat.le_of_ble_eq_true rfl⟩ hl.1 (Nat.le_of_ble_eq_true rfl) ⟨Nat.le_of_ble_eq_true rfl, Nat.le_of_ble_eq_true rfl⟩ di_GD_9 (fun f1 H locs hP hD hS => ?_)
  refine W.widen (k := 3) (n := 21) (Nat.le_of_ble_eq_true rfl) (Nat.le_of_ble_eq_true rfl) ?_
  have hP : va_P D cls ((h0, .inr (6, [.null, .null, .null, .null, .null, .null, .null, .null, .int 0, .int 0])) :: (([] : va_W) ++ wPage cI f1 q1)) H := hP
  have hD : va_D A ((h0, .inr (6, [.null, .null, .null, .null, .null, .null, .null, .null, .int 0, .int 0])) :: (([] : va_W) ++ wPage cI f1 q1)) := hD
  refine va_putF (D := D) (ci := 6) (v := .ref q1) (ty := (.object "GoingDark$Page")) (C := "GoingDark") (T := Tf6) (N := 10) hx hb hts lay6 tf6 tfo6 nf6 hown hK hP hD hS 0 rfl rfl 0 (by decide) (hts _ (gw1 183 rfl rfl)) (fun _ h9 => h9) rfl hin rfl (by decide +kernel) rfl rfl (Nat.le_of_ble_eq_true rfl) di_GD_12 (fun H locs hP hD hS => ?_)
  have hP : va_P D cls ((h0, .inr (6, [.ref q1, .null, .null, .null, .null, .null, .null, .null, .int 0, .int 0])) :: (([] : va_W) ++ wPage cI f1 q1)) H := hP
  have hD : va_D A ((h0, .inr (6, [.ref q1, .null, .null, .null, .null, .null, .null, .null, .int 0, .int 0])) :: (([] : va_W) ++ wPage cI f1 q1)) := hD
  refine lv_aload_n hx hb di_GD_15 rfl (lv_at hl 0 rfl) ?_
  refine va_new (ci := 5) (fs := [.null, .null, .null, .int 0, .int 0, .int 0]) (C := "GoingDark$Strait") (T := Tf5) (N := 6) hx hb hts lay5 tf5 tfo5 hown (hts _ (gw1 55 rfl rfl)) (hts _ (gw1 56 rfl rfl)) (hts _ (gw1 5 rfl rfl)) hK hP hD hS hA rfl (fun j hj => by rcases (show j = 0 ∨ j = 1 ∨ j = 2 ∨ j = 3 ∨ j = 4 ∨ j = 5 by omega) with rfl | rfl | rfl | rfl | rfl | rfl <;> rfl) (Nat.le_of_ble_eq_true rfl) (Nat.le_of_ble_eq_true rfl) di_GD_16 (fun q2 H hP hD hS => ?_)
  refine W.widen (k := 4) (n := 27) (Nat.le_of_ble_eq_true rfl) (Nat.le_of_ble_eq_true rfl) ?_
  refine lv_dup hx hb di_GD_19 rfl ?_
  refine mk_callN (q := q2) (rest := [.ref q2, .ref h0]) [] hx hb hml hown hts hNW hK hP hD hS hA (ct_Strait_init D cI) mdN_Strait rfl (nw1 57 rfl rfl) rfl rfl ⟨Nat.le_of_ble_eq_true rfl, Nat.le_of_ble_eq_true rfl⟩ hl.1 (Nat.le_of_ble_eq_true rfl) ⟨Nat.le_of_ble_eq_true rfl, Nat.le_of_ble_eq_true rfl⟩ di_GD_20 (fun f2 H locs hP hD hS => ?_)
  refine W.widen (k := 10) (n := 50) (Nat.le_of_ble_eq_true rfl) (Nat.le_of_ble_eq_true rfl) ?_
  have hP : va_P D cls ((h0, .inr (6, [.ref q1, .null, .null, .null, .null, .null, .null, .null, .int 0, .int 0])) :: ((([] : va_W) ++ wPage cI f1 q1) ++ wStrait cI f2 q2)) H := hP
  have hD : va_D A ((h0, .inr (6, [.ref q1, .null, .null, .null, .null, .null, .null, .null, .int 0, .int 0])) :: ((([] : va_W) ++ wPage cI f1 q1) ++ wStrait cI f2 q2)) := hD
  refine va_putF (D := D) (ci := 6) (v := .ref q2) (ty := (.object "GoingDark$Strait")) (C := "GoingDark") (T := Tf6) (N := 10) hx hb hts lay6 tf6 tfo6 nf6 hown hK hP hD hS 0 rfl rfl 1 (by decide) (hts _ (gw1 184 rfl rfl)) (fun _ h9 => h9) rfl hin rfl (by decide +kernel) rfl rfl (Nat.le_of_ble_eq_true rfl) di_GD_23 (fun H locs hP hD hS => ?_)
  have hP : va_P D cls ((h0, .inr (6, [.ref q1, .ref q2, .null, .null, .null, .null, .null, .null, .int 0, .int 0])) :: ((([] : va_W) ++ wPage cI f1 q1) ++ wStrait cI f2 q2)) H := hP
  have hD : va_D A ((h0, .inr (6, [.ref q1, .ref q2, .null, .null, .null, .null, .null, .null, .int 0, .int 0])) :: ((([] : va_W) ++ wPage cI f1 q1) ++ wStrait cI f2 q2)) := hD
  refine lv_aload_n hx hb di_GD_26 rfl (lv_at hl 0 rfl) ?_
  refine va_new (ci := 2) (fs := [.null, .null, .null, .null, .null, .null, .null, .int 0, .int 0, .int 0]) (C := "GoingDark$Night") (T := Tf2) (N := 10) hx hb hts lay2 tf2 tfo2 hown (hts _ (gw1 93 rfl rfl)) (hts _ (gw1 94 rfl rfl)) (hts _ (gw1 6 rfl rfl)) hK hP hD hS hA rfl (fun j hj => by rcases (show j = 0 ∨ j = 1 ∨ j = 2 ∨ j = 3 ∨ j = 4 ∨ j = 5 ∨ j = 6 ∨ j = 7 ∨ j = 8 ∨ j = 9 by omega) with rfl | rfl | rfl | rfl | rfl | rfl | rfl | rfl | rfl | rfl <;> rfl) (Nat.le_of_ble_eq_true rfl) (Nat.le_of_ble_eq_true rfl) di_GD_27 (fun q3 H hP hD hS => ?_)
  refine W.widen (k := 11) (n := 60) (Nat.le_of_ble_eq_true rfl) (Nat.le_of_ble_eq_true rfl) ?_
  refine lv_dup hx hb di_GD_30 rfl ?_
  refine lv_aload_n hx hb di_GD_31 rfl (lv_at hl 0 rfl) ?_
  refine va_get (D := D) (ci := 6) (v := .ref q2) (C := "GoingDark") (T := Tf6) (N := 10) hx hb hts lay6 hown hK hP 0 rfl rfl 1 (by decide) (hts _ (gw1 184 rfl rfl)) (fun _ h9 => h9) rfl di_GD_32 ?_
  refine mk_call (q := q3) (rest := [.ref q3, .ref h0]) [.ref q2] hx hb hml hown hts hNW hK hP hD hS hA (ct_Night_init D cI q2) mdN_Night rfl (gw1 95 rfl rfl) rfl rfl ⟨Nat.le_of_ble_eq_true rfl, Nat.le_of_ble_eq_true rfl⟩ hl.1 (Nat.le_of_ble_eq_true rfl) ⟨Nat.le_of_ble_eq_true rfl, Nat.le_of_ble_eq_true rfl⟩ di_GD_35 (fun f3 H locs hP hD hS => ?_)
  refine W.widen (k := 23) (n := 90) (Nat.le_of_ble_eq_true rfl) (Nat.le_of_ble_eq_true rfl) ?_
  have hP : va_P D cls ((h0, .inr (6, [.ref q1, .ref q2, .null, .null, .null, .null, .null, .null, .int 0, .int 0])) :: (((([] : va_W) ++ wPage cI f1 q1) ++ wStrait cI f2 q2) ++ wNight cI q2 f3 q3)) H := hP
  have hD : va_D A ((h0, .inr (6, [.ref q1, .ref q2, .null, .null, .null, .null, .null, .null, .int 0, .int 0])) :: (((([] : va_W) ++ wPage cI f1 q1) ++ wStrait cI f2 q2) ++ wNight cI q2 f3 q3)) := hD
  refine va_putF (D := D) (ci := 6) (v := .ref q3) (ty := (.object "GoingDark$Night")) (C := "GoingDark") (T := Tf6) (N := 10) hx hb hts lay6 tf6 tfo6 nf6 hown hK hP hD hS 0 rfl rfl 2 (by decide) (hts _ (gw1 185 rfl rfl)) (fun _ h9 => h9) rfl hin rfl (by decide +kernel) rfl rfl (Nat.le_of_ble_eq_true rfl) di_GD_38 (fun H locs hP hD hS => ?_)
  have hP : va_P D cls ((h0, .inr (6, [.ref q1, .ref q2, .ref q3, .null, .null, .null, .null, .null, .int 0, .int 0])) :: (((([] : va_W) ++ wPage cI f1 q1) ++ wStrait cI f2 q2) ++ wNight cI q2 f3 q3)) H := hP
  have hD : va_D A ((h0, .inr (6, [.ref q1, .ref q2, .ref q3, .null, .null, .null, .null, .null, .int 0, .int 0])) :: (((([] : va_W) ++ wPage cI f1 q1) ++ wStrait cI f2 q2) ++ wNight cI q2 f3 q3)) := hD
  refine lv_aload_n hx hb di_GD_41 rfl (lv_at hl 0 rfl) ?_
  refine va_new (ci := 2) (fs := [.null, .null, .null, .null, .null, .null, .null, .int 0, .int 0, .int 0]) (C := "GoingDark$Night") (T := Tf2) (N := 10) hx hb hts lay2 tf2 tfo2 hown (hts _ (gw1 93 rfl rfl)) (hts _ (gw1 94 rfl rfl)) (hts _ (gw1 6 rfl rfl)) hK hP hD hS hA rfl (fun j hj => by rcases (show j = 0 ∨ j = 1 ∨ j = 2 ∨ j = 3 ∨ j = 4 ∨ j = 5 ∨ j = 6 ∨ j = 7 ∨ j = 8 ∨ j = 9 by omega) with rfl | rfl | rfl | rfl | rfl | rfl | rfl | rfl | rfl | rfl <;> rfl) (Nat.le_of_ble_eq_true rfl) (Nat.le_of_ble_eq_true rfl) di_GD_42 (fun q4 H hP hD hS => ?_)
  refine W.widen (k := 24) (n := 100) (Nat.le_of_ble_eq_true rfl) (Nat.le_of_ble_eq_true rfl) ?_
  refine lv_dup hx hb di_GD_45 rfl ?_
  refine lv_aload_n hx hb di_GD_46 rfl (lv_at hl 0 rfl) ?_
  refine va_get (D := D) (ci := 6) (v := .ref q2) (C := "GoingDark") (T := Tf6) (N := 10) hx hb hts lay6 hown hK hP 0 rfl rfl 1 (by decide) (hts _ (gw1 184 rfl rfl)) (fun _ h9 => h9) rfl di_GD_47 ?_
  refine mk_call (q := q4) (rest := [.ref q4, .ref h0]) [.ref q2] hx hb hml hown hts hNW hK hP hD hS hA (ct_Night_init D cI q2) mdN_Night rfl (gw1 95 rfl rfl) rfl rfl ⟨Nat.le_of_ble_eq_true rfl, Nat.le_of_ble_eq_true rfl⟩ hl.1 (Nat.le_of_ble_eq_true rfl) ⟨Nat.le_of_ble_eq_true rfl, Nat.le_of_ble_eq_true rfl⟩ di_GD_50 (fun f4 H locs hP hD hS => ?_)
  refine W.widen (k := 36) (n := 130) (Nat.le_of_ble_eq_true rfl) (Nat.le_of_ble_eq_true rfl) ?_
  have hP : va_P D cls ((h0, .inr (6, [.ref q1, .ref q2, .ref q3, .null, .null, .null, .null, .null, .int 0, .int 0])) :: ((((([] : va_W) ++ wPage cI f1 q1) ++ wStrait cI f2 q2) ++ wNight cI q2 f3 q3) ++ wNight cI q2 f4 q4)) H := hP
  have hD : va_D A ((h0, .inr (6, [.ref q1, .ref q2, .ref q3, .null, .null, .null, .null, .null, .int 0, .int 0])) :: ((((([] : va_W) ++ wPage cI f1 q1) ++ wStrait cI f2 q2) ++ wNight cI q2 f3 q3) ++ wNight cI q2 f4 q4)) := hD
  refine va_putF (D := D) (ci := 6) (v := .ref q4) (ty := (.object "GoingDark$Night")) (C := "GoingDark") (T := Tf6) (N := 10) hx hb hts lay6 tf6 tfo6 nf6 hown hK hP hD hS 0 rfl rfl 3 (by decide) (hts _ (gw1 186 rfl rfl)) (fun _ h9 => h9) rfl hin rfl (by decide +kernel) rfl rfl (Nat.le_of_ble_eq_true rfl) di_GD_53 (fun H locs hP hD hS => ?_)
  have hP : va_P D cls ((h0, .inr (6, [.ref q1, .ref q2, .ref q3, .ref q4, .null, .null, .null, .null, .int 0, .int 0])) :: ((((([] : va_W) ++ wPage cI f1 q1) ++ wStrait cI f2 q2) ++ wNight cI q2 f3 q3) ++ wNight cI q2 f4 q4)) H := hP
  have hD : va_D A ((h0, .inr (6, [.ref q1, .ref q2, .ref q3, .ref q4, .null, .null, .null, .null, .int 0, .int 0])) :: ((((([] : va_W) ++ wPage cI f1 q1) ++ wStrait cI f2 q2) ++ wNight cI q2 f3 q3) ++ wNight cI q2 f4 q4)) := hD
  refine lv_aload_n hx hb di_GD_56 rfl (lv_at hl 0 rfl) ?_
  refine va_new (ci := 2) (fs := [.null, .null, .null, .null, .null, .null, .null, .int 0, .int 0, .int 0]) (C := "GoingDark$Night") (T := Tf2) (N := 10) hx hb hts lay2 tf2 tfo2 hown (hts _ (gw1 93 rfl rfl)) (hts _ (gw1 94 rfl rfl)) (hts _ (gw1 6 rfl rfl)) hK hP hD hS hA rfl (fun j hj => by rcases (show j = 0 ∨ j = 1 ∨ j = 2 ∨ j = 3 ∨ j = 4 ∨ j = 5 ∨ j = 6 ∨ j = 7 ∨ j = 8 ∨ j = 9 by omega) with rfl | rfl | rfl | rfl | rfl | rfl | rfl | rfl | rfl | rfl <;> rfl) (Nat.le_of_ble_eq_true rfl) (Nat.le_of_ble_eq_true rfl) di_GD_57 (fun q5 H hP hD hS => ?_)
  refine W.widen (k := 37) (n := 140) (Nat.le_of_ble_eq_true rfl) (Nat.le_of_ble_eq_true rfl) ?_
  refine lv_dup hx hb di_GD_60 rfl ?_
  refine lv_aload_n hx hb di_GD_61 rfl (lv_at hl 0 rfl) ?_
  refine va_get (D := D) (ci := 6) (v := .ref q2) (C := "GoingDark") (T := Tf6) (N := 10) hx hb hts lay6 hown hK hP 0 rfl rfl 1 (by decide) (hts _ (gw1 184 rfl rfl)) (fun _ h9 => h9) rfl di_GD_62 ?_
  refine mk_call (q := q5) (rest := [.ref q5, .ref h0]) [.ref q2] hx hb hml hown hts hNW hK hP hD hS hA (ct_Night_init D cI q2) mdN_Night rfl (gw1 95 rfl rfl) rfl rfl ⟨Nat.le_of_ble_eq_true rfl, Nat.le_of_ble_eq_true rfl⟩ hl.1 (Nat.le_of_ble_eq_true rfl) ⟨Nat.le_of_ble_eq_true rfl, Nat.le_of_ble_eq_true rfl⟩ di_GD_65 (fun f5 H locs hP hD hS => ?_)
  refine W.widen (k := 49) (n := 170) (Nat.le_of_ble_eq_true rfl) (Nat.le_of_ble_eq_true rfl) ?_
  have hP : va_P D cls ((h0, .inr (6, [.ref q1, .ref q2, .ref q3, .ref q4, .null, .null, .null, .null, .int 0, .int 0])) :: (((((([] : va_W) ++ wPage cI f1 q1) ++ wStrait cI f2 q2) ++ wNight cI q2 f3 q3) ++ wNight cI q2 f4 q4) ++ wNight cI q2 f5 q5)) H := hP
  have hD : va_D A ((h0, .inr (6, [.ref q1, .ref q2, .ref q3, .ref q4, .null, .null, .null, .null, .int 0, .int 0])) :: (((((([] : va_W) ++ wPage cI f1 q1) ++ wStrait cI f2 q2) ++ wNight cI q2 f3 q3) ++ wNight cI q2 f4 q4) ++ wNight cI q2 f5 q5)) := hD
  refine va_putF (D := D) (ci := 6) (v := .ref q5) (ty := (.object "GoingDark$Night")) (C := "GoingDark") (T := Tf6) (N := 10) hx hb hts lay6 tf6 tfo6 nf6 hown hK hP hD hS 0 rfl rfl 4 (by decide) (hts _ (gw1 187 rfl rfl)) (fun _ h9 => h9) rfl hin rfl (by decide +kernel) rfl rfl (Nat.le_of_ble_eq_true rfl) di_GD_68 (fun H locs hP hD hS => ?_)
  have hP : va_P D cls ((h0, .inr (6, [.ref q1, .ref q2, .ref q3, .ref q4, .ref q5, .null, .null, .null, .int 0, .int 0])) :: (((((([] : va_W) ++ wPage cI f1 q1) ++ wStrait cI f2 q2) ++ wNight cI q2 f3 q3) ++ wNight cI q2 f4 q4) ++ wNight cI q2 f5 q5)) H := hP
  have hD : va_D A ((h0, .inr (6, [.ref q1, .ref q2, .ref q3, .ref q4, .ref q5, .null, .null, .null, .int 0, .int 0])) :: (((((([] : va_W) ++ wPage cI f1 q1) ++ wStrait cI f2 q2) ++ wNight cI q2 f3 q3) ++ wNight cI q2 f4 q4) ++ wNight cI q2 f5 q5)) := hD
  refine lv_aload_n hx hb di_GD_71 rfl (lv_at hl 0 rfl) ?_
  refine va_new (ci := 1) (fs := [.null, .null, .null, .null, .null, .null, .int 0]) (C := "GoingDark$Heard") (T := Tf1) (N := 7) hx hb hts lay1 tf1 tfo1 hown (hts _ (gw1 141 rfl rfl)) (hts _ (gw1 142 rfl rfl)) (hts _ (gw1 7 rfl rfl)) hK hP hD hS hA rfl (fun j hj => by rcases (show j = 0 ∨ j = 1 ∨ j = 2 ∨ j = 3 ∨ j = 4 ∨ j = 5 ∨ j = 6 by omega) with rfl | rfl | rfl | rfl | rfl | rfl | rfl <;> rfl) (Nat.le_of_ble_eq_true rfl) (Nat.le_of_ble_eq_true rfl) di_GD_72 (fun q6 H hP hD hS => ?_)
  refine W.widen (k := 50) (n := 177) (Nat.le_of_ble_eq_true rfl) (Nat.le_of_ble_eq_true rfl) ?_
  refine lv_dup hx hb di_GD_75 rfl ?_
  refine lv_aload_n hx hb di_GD_76 rfl (lv_at hl 0 rfl) ?_
  refine va_get (D := D) (ci := 6) (v := .ref q2) (C := "GoingDark") (T := Tf6) (N := 10) hx hb hts lay6 hown hK hP 0 rfl rfl 1 (by decide) (hts _ (gw1 184 rfl rfl)) (fun _ h9 => h9) rfl di_GD_77 ?_
  refine mk_call (q := q6) (rest := [.ref q6, .ref h0]) [.ref q2] hx hb hml hown hts hNW hK hP hD hS hA (ct_Heard_init D cI q2) mdN_Heard rfl (gw1 143 rfl rfl) rfl rfl ⟨Nat.le_of_ble_eq_true rfl, Nat.le_of_ble_eq_true rfl⟩ hl.1 (Nat.le_of_ble_eq_true rfl) ⟨Nat.le_of_ble_eq_true rfl, Nat.le_of_ble_eq_true rfl⟩ di_GD_80 (fun f6 H locs hP hD hS => ?_)
  refine W.widen (k := 60) (n := 222) (Nat.le_of_ble_eq_true rfl) (Nat.le_of_ble_eq_true rfl) ?_
  have hP : va_P D cls ((h0, .inr (6, [.ref q1, .ref q2, .ref q3, .ref q4, .ref q5, .null, .null, .null, .int 0, .int 0])) :: ((((((([] : va_W) ++ wPage cI f1 q1) ++ wStrait cI f2 q2) ++ wNight cI q2 f3 q3) ++ wNight cI q2 f4 q4) ++ wNight cI q2 f5 q5) ++ wHeard cI q2 f6 q6)) H := hP
  have hD : va_D A ((h0, .inr (6, [.ref q1, .ref q2, .ref q3, .ref q4, .ref q5, .null, .null, .null, .int 0, .int 0])) :: ((((((([] : va_W) ++ wPage cI f1 q1) ++ wStrait cI f2 q2) ++ wNight cI q2 f3 q3) ++ wNight cI q2 f4 q4) ++ wNight cI q2 f5 q5) ++ wHeard cI q2 f6 q6)) := hD
  refine va_putF (D := D) (ci := 6) (v := .ref q6) (ty := (.object "GoingDark$Heard")) (C := "GoingDark") (T := Tf6) (N := 10) hx hb hts lay6 tf6 tfo6 nf6 hown hK hP hD hS 0 rfl rfl 5 (by decide) (hts _ (gw1 188 rfl rfl)) (fun _ h9 => h9) rfl hin rfl (by decide +kernel) rfl rfl (Nat.le_of_ble_eq_true rfl) di_GD_83 (fun H locs hP hD hS => ?_)
  have hP : va_P D cls ((h0, .inr (6, [.ref q1, .ref q2, .ref q3, .ref q4, .ref q5, .ref q6, .null, .null, .int 0, .int 0])) :: ((((((([] : va_W) ++ wPage cI f1 q1) ++ wStrait cI f2 q2) ++ wNight cI q2 f3 q3) ++ wNight cI q2 f4 q4) ++ wNight cI q2 f5 q5) ++ wHeard cI q2 f6 q6)) H := hP
  have hD : va_D A ((h0, .inr (6, [.ref q1, .ref q2, .ref q3, .ref q4, .ref q5, .ref q6, .null, .null, .int 0, .int 0])) :: ((((((([] : va_W) ++ wPage cI f1 q1) ++ wStrait cI f2 q2) ++ wNight cI q2 f3 q3) ++ wNight cI q2 f4 q4) ++ wNight cI q2 f5 q5) ++ wHeard cI q2 f6 q6)) := hD
  refine lv_aload_n hx hb di_GD_86 rfl (lv_at hl 0 rfl) ?_
  refine va_new (ci := 1) (fs := [.null, .null, .null, .null, .null, .null, .int 0]) (C := "GoingDark$Heard") (T := Tf1) (N := 7) hx hb hts lay1 tf1 tfo1 hown (hts _ (gw1 141 rfl rfl)) (hts _ (gw1 142 rfl rfl)) (hts _ (gw1 7 rfl rfl)) hK hP hD hS hA rfl (fun j hj => by rcases (show j = 0 ∨ j = 1 ∨ j = 2 ∨ j = 3 ∨ j = 4 ∨ j = 5 ∨ j = 6 by omega) with rfl | rfl | rfl | rfl | rfl | rfl | rfl <;> rfl) (Nat.le_of_ble_eq_true rfl) (Nat.le_of_ble_eq_true rfl) di_GD_87 (fun q7 H hP hD hS => ?_)
  refine W.widen (k := 61) (n := 229) (Nat.le_of_ble_eq_true rfl) (Nat.le_of_ble_eq_true rfl) ?_
  refine lv_dup hx hb di_GD_90 rfl ?_
  refine lv_aload_n hx hb di_GD_91 rfl (lv_at hl 0 rfl) ?_
  refine va_get (D := D) (ci := 6) (v := .ref q2) (C := "GoingDark") (T := Tf6) (N := 10) hx hb hts lay6 hown hK hP 0 rfl rfl 1 (by decide) (hts _ (gw1 184 rfl rfl)) (fun _ h9 => h9) rfl di_GD_92 ?_
  refine mk_call (q := q7) (rest := [.ref q7, .ref h0]) [.ref q2] hx hb hml hown hts hNW hK hP hD hS hA (ct_Heard_init D cI q2) mdN_Heard rfl (gw1 143 rfl rfl) rfl rfl ⟨Nat.le_of_ble_eq_true rfl, Nat.le_of_ble_eq_true rfl⟩ hl.1 (Nat.le_of_ble_eq_true rfl) ⟨Nat.le_of_ble_eq_true rfl, Nat.le_of_ble_eq_true rfl⟩ di_GD_95 (fun f7 H locs hP hD hS => ?_)
  refine W.widen (k := 71) (n := 274) (Nat.le_of_ble_eq_true rfl) (Nat.le_of_ble_eq_true rfl) ?_
  have hP : va_P D cls ((h0, .inr (6, [.ref q1, .ref q2, .ref q3, .ref q4, .ref q5, .ref q6, .null, .null, .int 0, .int 0])) :: (((((((([] : va_W) ++ wPage cI f1 q1) ++ wStrait cI f2 q2) ++ wNight cI q2 f3 q3) ++ wNight cI q2 f4 q4) ++ wNight cI q2 f5 q5) ++ wHeard cI q2 f6 q6) ++ wHeard cI q2 f7 q7)) H := hP
  have hD : va_D A ((h0, .inr (6, [.ref q1, .ref q2, .ref q3, .ref q4, .ref q5, .ref q6, .null, .null, .int 0, .int 0])) :: (((((((([] : va_W) ++ wPage cI f1 q1) ++ wStrait cI f2 q2) ++ wNight cI q2 f3 q3) ++ wNight cI q2 f4 q4) ++ wNight cI q2 f5 q5) ++ wHeard cI q2 f6 q6) ++ wHeard cI q2 f7 q7)) := hD
  refine va_putF (D := D) (ci := 6) (v := .ref q7) (ty := (.object "GoingDark$Heard")) (C := "GoingDark") (T := Tf6) (N := 10) hx hb hts lay6 tf6 tfo6 nf6 hown hK hP hD hS 0 rfl rfl 6 (by decide) (hts _ (gw1 189 rfl rfl)) (fun _ h9 => h9) rfl hin rfl (by decide +kernel) rfl rfl (Nat.le_of_ble_eq_true rfl) di_GD_98 (fun H locs hP hD hS => ?_)
  have hP : va_P D cls ((h0, .inr (6, [.ref q1, .ref q2, .ref q3, .ref q4, .ref q5, .ref q6, .ref q7, .null, .int 0, .int 0])) :: (((((((([] : va_W) ++ wPage cI f1 q1) ++ wStrait cI f2 q2) ++ wNight cI q2 f3 q3) ++ wNight cI q2 f4 q4) ++ wNight cI q2 f5 q5) ++ wHeard cI q2 f6 q6) ++ wHeard cI q2 f7 q7)) H := hP
  have hD : va_D A ((h0, .inr (6, [.ref q1, .ref q2, .ref q3, .ref q4, .ref q5, .ref q6, .ref q7, .null, .int 0, .int 0])) :: (((((((([] : va_W) ++ wPage cI f1 q1) ++ wStrait cI f2 q2) ++ wNight cI q2 f3 q3) ++ wNight cI q2 f4 q4) ++ wNight cI q2 f5 q5) ++ wHeard cI q2 f6 q6) ++ wHeard cI q2 f7 q7)) := hD
  refine lv_aload_n hx hb di_GD_101 rfl (lv_at hl 0 rfl) ?_
  refine va_new (ci := 0) (fs := [.int 0]) (C := "GoingDark$Draws") (T := Tf0) (N := 1) hx hb hts lay0 tf0 tfo0 hown (hts _ (gw1 172 rfl rfl)) (hts _ (gw1 173 rfl rfl)) (hts _ (gw1 8 rfl rfl)) hK hP hD hS hA rfl (fun j hj => by rcases (show j = 0 by omega) with rfl; rfl) (Nat.le_of_ble_eq_true rfl) (Nat.le_of_ble_eq_true rfl) di_GD_102 (fun q8 H hP hD hS => ?_)
  refine W.widen (k := 72) (n := 275) (Nat.le_of_ble_eq_true rfl) (Nat.le_of_ble_eq_true rfl) ?_
  refine lv_dup hx hb di_GD_105 rfl ?_
  refine mk_callN (q := q8) (rest := [.ref q8, .ref h0]) [] hx hb hml hown hts hNW hK hP hD hS hA (ct_Draws_init D cI) mdN_Draws rfl (nw1 174 rfl rfl) rfl rfl ⟨Nat.le_of_ble_eq_true rfl, Nat.le_of_ble_eq_true rfl⟩ hl.1 (Nat.le_of_ble_eq_true rfl) ⟨Nat.le_of_ble_eq_true rfl, Nat.le_of_ble_eq_true rfl⟩ di_GD_106 (fun f8 H locs hP hD hS => ?_)
  refine W.widen (k := 72) (n := 275) (Nat.le_of_ble_eq_true rfl) (Nat.le_of_ble_eq_true rfl) ?_
  have hP : va_P D cls ((h0, .inr (6, [.ref q1, .ref q2, .ref q3, .ref q4, .ref q5, .ref q6, .ref q7, .null, .int 0, .int 0])) :: ((((((((([] : va_W) ++ wPage cI f1 q1) ++ wStrait cI f2 q2) ++ wNight cI q2 f3 q3) ++ wNight cI q2 f4 q4) ++ wNight cI q2 f5 q5) ++ wHeard cI q2 f6 q6) ++ wHeard cI q2 f7 q7) ++ wDraws cI f8 q8)) H := hP
  have hD : va_D A ((h0, .inr (6, [.ref q1, .ref q2, .ref q3, .ref q4, .ref q5, .ref q6, .ref q7, .null, .int 0, .int 0])) :: ((((((((([] : va_W) ++ wPage cI f1 q1) ++ wStrait cI f2 q2) ++ wNight cI q2 f3 q3) ++ wNight cI q2 f4 q4) ++ wNight cI q2 f5 q5) ++ wHeard cI q2 f6 q6) ++ wHeard cI q2 f7 q7) ++ wDraws cI f8 q8)) := hD
  refine va_putF (D := D) (ci := 6) (v := .ref q8) (ty := (.object "GoingDark$Draws")) (C := "GoingDark") (T := Tf6) (N := 10) hx hb hts lay6 tf6 tfo6 nf6 hown hK hP hD hS 0 rfl rfl 7 (by decide) (hts _ (gw1 190 rfl rfl)) (fun _ h9 => h9) rfl hin rfl (by decide +kernel) rfl rfl (Nat.le_of_ble_eq_true rfl) di_GD_109 (fun H locs hP hD hS => ?_)
  have hP : va_P D cls ((h0, .inr (6, [.ref q1, .ref q2, .ref q3, .ref q4, .ref q5, .ref q6, .ref q7, .ref q8, .int 0, .int 0])) :: ((((((((([] : va_W) ++ wPage cI f1 q1) ++ wStrait cI f2 q2) ++ wNight cI q2 f3 q3) ++ wNight cI q2 f4 q4) ++ wNight cI q2 f5 q5) ++ wHeard cI q2 f6 q6) ++ wHeard cI q2 f7 q7) ++ wDraws cI f8 q8)) H := hP
  have hD : va_D A ((h0, .inr (6, [.ref q1, .ref q2, .ref q3, .ref q4, .ref q5, .ref q6, .ref q7, .ref q8, .int 0, .int 0])) :: ((((((((([] : va_W) ++ wPage cI f1 q1) ++ wStrait cI f2 q2) ++ wNight cI q2 f3 q3) ++ wNight cI q2 f4 q4) ++ wNight cI q2 f5 q5) ++ wHeard cI q2 f6 q6) ++ wHeard cI q2 f7 q7) ++ wDraws cI f8 q8)) := hD
  refine lv_aload_n hx hb di_GD_112 rfl (lv_at hl 0 rfl) ?_
  refine lv_iconst (v := 0) hx hb di_GD_113 (by decide) ?_
  refine va_put (D := D) (ci := 6) (v := .int 0) (ty := .boolean) (C := "GoingDark") (T := Tf6) (N := 10) hx hb hts lay6 tf6 tfo6 nf6 hown hK hP hD hS 0 rfl rfl 8 (by decide) (hts _ (gw1 191 rfl rfl)) (fun _ h9 => h9) rfl (by decide +kernel) rfl rfl (Nat.le_of_ble_eq_true rfl) di_GD_114 (fun H locs hP hD hS => ?_)
  have hP : va_P D cls ((h0, .inr (6, [.ref q1, .ref q2, .ref q3, .ref q4, .ref q5, .ref q6, .ref q7, .ref q8, .int 0, .int 0])) :: ((((((((([] : va_W) ++ wPage cI f1 q1) ++ wStrait cI f2 q2) ++ wNight cI q2 f3 q3) ++ wNight cI q2 f4 q4) ++ wNight cI q2 f5 q5) ++ wHeard cI q2 f6 q6) ++ wHeard cI q2 f7 q7) ++ wDraws cI f8 q8)) H := hP
  have hD : va_D A ((h0, .inr (6, [.ref q1, .ref q2, .ref q3, .ref q4, .ref q5, .ref q6, .ref q7, .ref q8, .int 0, .int 0])) :: ((((((((([] : va_W) ++ wPage cI f1 q1) ++ wStrait cI f2 q2) ++ wNight cI q2 f3 q3) ++ wNight cI q2 f4 q4) ++ wNight cI q2 f5 q5) ++ wHeard cI q2 f6 q6) ++ wHeard cI q2 f7 q7) ++ wDraws cI f8 q8)) := hD
  refine lv_aload_n hx hb di_GD_117 rfl (lv_at hl 0 rfl) ?_
  refine lv_iconst (v := 0) hx hb di_GD_118 (by decide) ?_
  refine va_put (D := D) (ci := 6) (v := .int 0) (ty := .int) (C := "GoingDark") (T := Tf6) (N := 10) hx hb hts lay6 tf6 tfo6 nf6 hown hK hP hD hS 0 rfl rfl 9 (by decide) (hts _ (gw1 192 rfl rfl)) (fun _ h9 => h9) rfl (by decide +kernel) rfl rfl (Nat.le_of_ble_eq_true rfl) di_GD_119 (fun H locs hP hD hS => ?_)
  have hP : va_P D cls ((h0, .inr (6, [.ref q1, .ref q2, .ref q3, .ref q4, .ref q5, .ref q6, .ref q7, .ref q8, .int 0, .int 0])) :: ((((((((([] : va_W) ++ wPage cI f1 q1) ++ wStrait cI f2 q2) ++ wNight cI q2 f3 q3) ++ wNight cI q2 f4 q4) ++ wNight cI q2 f5 q5) ++ wHeard cI q2 f6 q6) ++ wHeard cI q2 f7 q7) ++ wDraws cI f8 q8)) H := hP
  have hD : va_D A ((h0, .inr (6, [.ref q1, .ref q2, .ref q3, .ref q4, .ref q5, .ref q6, .ref q7, .ref q8, .int 0, .int 0])) :: ((((((((([] : va_W) ++ wPage cI f1 q1) ++ wStrait cI f2 q2) ++ wNight cI q2 f3 q3) ++ wNight cI q2 f4 q4) ++ wNight cI q2 f5 q5) ++ wHeard cI q2 f6 q6) ++ wHeard cI q2 f7 q7) ++ wDraws cI f8 q8)) := hD
  exact fin 122 H locs ls (adr [0, q1, q2, q3, q4, q5, q6, q7, q8, f1 0, f2 0, f2 1, f2 2, f3 0, f3 1, f3 2, f3 3, f3 4, f3 5, f4 0, f4 1, f4 2, f4 3, f4 4, f4 5, f5 0, f5 1, f5 2, f5 3, f5 4, f5 5, f6 0, f6 1, f6 2, f6 3, f6 4, f7 0, f7 1, f7 2, f7 3, f7 4, f1 1, f2 3, f2 4, f2 5, f3 6, f3 7, f3 8, f3 9, f3 10, f3 11, f4 6, f4 7, f4 8, f4 9, f4 10, f4 11, f5 6, f5 7, f5 8, f5 9, f5 10, f5 11, f6 5, f6 6, f6 7, f6 8, f6 9, f7 5, f7 6, f7 7, f7 8, f7 9]) di_GD_122 hP hD hS
