/-! THE CLAIM OUT OF ONE WALK OF THE LAW'S BODY. Your part is whole_start (and what it stands on); all else here is the same for every law, but numbers. -/
def R_law : String := "GoingDarkLaw"
def lw_P (b : Addr) (xs : List Int32) (args : Array Value) (s : State) : Prop := args = #[.ref b] ∧ s.IntsAt b xs ∧ xs.length ≤ 384 ∧ (Jvm.Cond.and given_1 narrow_1).before args s = true
def lw_Q (_ : Array Value) (s : State) (o : Outcome) (t : State) : Prop := o = .returned (some (.int 1)) ∧ Framed s o t [] 682862 7053661
def lw_Z (below : List Frame) (a : Array Value) (s : State) : State → Prop := fun t => ∃ o, t.status = .running ∧ Ended t below o ∧ lw_Q a s o t
/-- the law's own end, with 1 on the stack, nothing written that was there before, its room as the claim has it -/
theorem lw_ret {p : Program} {l : Launch} {e : Env} {s : State} {m : MethodId} {below : List Frame} {meth : Method} {c : Code} {b : Nat} (hx : p.tables.exec = Jvm.exec) (hb : c.code = code) (hr : meth.sig.returnType = ret) (hlocks : meth.locks = false) {pc : Nat} {H : Heap} {ls : Array Slot} (hdg : decode code pc = .ok (.ireturn, 1)) : W p l e room_1 s m #[Value.ref b] below meth c H [] 682862 7053661 (lw_Z below #[Value.ref b] s) (F0 m pc ls [.int 1]) := by
  intro T hT X
  obtain ⟨fs, hret, hrun, hended, hW, hframe⟩ := X.leave (v := some (.int 1)) (hlocks := hlocks) (fun h => by rw [hr] at h; cases h)
  have hmeth' : T.vm.method? m = some meth := X.method'
  refine ⟨T.setFrames fs, ?_, .returned (some (.int 1)), hrun, hended, rfl, ⟨_, rfl⟩, hW, hframe⟩
  jvm_step X.here [X.here.top, hx, hb, hdg, hmeth', hr, ret, narrow_b1]
  (try refine ⟨rfl, ?_⟩); (try refine ⟨rfl, ?_⟩)
  first | (intro acts; rw [hret _ acts rfl rfl rfl]) | rw [hret _ _ rfl rfl rfl]
  exact Steps.refl _
/-- what holds at the law's entry: the machine, the code, the tables' words (any of lw_tbl by 'hts w (by decide +kernel)'), the script of L ints xs at the cell b, what the Statement gives of the start (any of its parts by flat_of_before) -/
def lw_At (p : Program) (s : State) (m : MethodId) (meth : Method) (c : Code) (b L : Nat) (xs : Nat → Int32) : Prop :=
  p.tables.exec = Jvm.exec ∧ c.code = code ∧ meth.sig.returnType = ret ∧ c.maxLocals = 4 ∧ s.vm.findClass R_law = some m.cls ∧ (∀ w ∈ lw_tbl, w.before #[Value.ref b] s = true) ∧ va_X b L xs s s.heap ∧ b < s.heap.size ∧ meth.locks = false ∧ (Jvm.Cond.and given_1 narrow_1).before #[Value.ref b] s = true
theorem dw_0 : decode code 0 = .ok (.new 7, 3) := by decide +kernel
theorem dw_3 : decode code 3 = .ok (.dup, 1) := by decide +kernel
theorem dw_4 : decode code 4 = .ok (.invokespecial 9, 3) := by decide +kernel
theorem dw_7 : decode code 7 = .ok (.astore_n 1, 1) := by decide +kernel
theorem dw_8 : decode code 8 = .ok (.new 10, 3) := by decide +kernel
theorem dw_11 : decode code 11 = .ok (.dup, 1) := by decide +kernel
theorem dw_12 : decode code 12 = .ok (.invokespecial 12, 3) := by decide +kernel
theorem dw_15 : decode code 15 = .ok (.astore_n 2, 1) := by decide +kernel
theorem dw_16 : decode code 16 = .ok (.iconst 0, 1) := by decide +kernel
theorem dw_17 : decode code 17 = .ok (.istore_n 3, 1) := by decide +kernel
theorem dw_754 : decode code 754 = .ok (.ireturn, 1) := by decide +kernel
theorem nw_start {a : Array Value} {s : State} (h : ∀ w ∈ lw_tbl, w.before a s = true) : ∀ w ∈ NW, va_Nw w s := by
  intro w hw
  have h6 := (List.mem_filter.mp hw).2
  have h7 := h w (List.mem_filter.mp hw).1
  cases w with
  | fieldLinkNest a i b n d h => exact va_Nw.of rfl h7
  | methodLinkNest a i x h => exact va_Nw.of rfl h7
  | _ => cases h6
theorem tb2 {w : Cond} (k : Nat) (h : tables_1_2[k]? = some w) : w ∈ lw_tbl := List.mem_append_right _ (List.mem_append_right _ (List.mem_append_left _ (List.mem_of_getElem? h)))
theorem arr_start {a : Array Value} {s : State} {D : va_G} (hk : ∀ (k : Nat) (q : vw_C), cls[k]? = some q → u_Kn s q.1 q.2.1 q.2.2 (D.1 k) (D.2 k)) (h : (Cond.arrayClass .int).before a s = true) : ∃ cI : ClassId, va_K D cls [(cI, .int)] s := by
  obtain ⟨cI, kA, comp, a1, a2, a3⟩ := Cond.arrayClass_spec h
  refine ⟨cI, hk, fun k q hq => ?_⟩
  have h1 : k < 1 := (List.getElem?_eq_some_iff.mp hq).1
  rw [show k = 0 by omega] at hq
  cases hq
  exact ⟨fun n z => ⟨fun k h => (by cases h), kA, a2, comp, a3⟩, a1⟩
theorem cls_start {a : Array Value} {s : State} (hts : ∀ w ∈ GW, w.before a s = true) : ∃ D : va_G, ∀ (k : Nat) (q : vw_C), cls[k]? = some q → u_Kn s q.1 q.2.1 q.2.2 (D.1 k) (D.2 k) := by
  obtain ⟨c0, i0, k0⟩ := u_known (C := "GoingDark$Draws") (T := Tf0) (N := 1) (n := 1) hts lay0 (hts _ (gw1 173 rfl rfl))
  obtain ⟨c1, i1, k1⟩ := u_known (C := "GoingDark$Heard") (T := Tf1) (N := 7) (n := 7) hts lay1 (hts _ (gw1 142 rfl rfl))
  obtain ⟨c2, i2, k2⟩ := u_known (C := "GoingDark$Night") (T := Tf2) (N := 10) (n := 10) hts lay2 (hts _ (gw1 94 rfl rfl))
  obtain ⟨c3, i3, k3⟩ := u_known (C := "GoingDark$Page") (T := Tf3) (N := 2) (n := 2) hts lay3 (hts _ (gw1 25 rfl rfl))
  obtain ⟨c4, i4, k4⟩ := u_known (C := "GoingDark$Row") (T := Tf4) (N := 1) (n := 1) hts lay4 (hts _ (gw1 31 rfl rfl))
  obtain ⟨c5, i5, k5⟩ := u_known (C := "GoingDark$Strait") (T := Tf5) (N := 6) (n := 6) hts lay5 (hts _ (gw1 56 rfl rfl))
  obtain ⟨c6, i6, k6⟩ := u_known (C := "GoingDark") (T := Tf6) (N := 10) (n := 10) hts lay6 (hts _ (gw1 17 rfl rfl))
  obtain ⟨c7, i7, k7⟩ := u_known (C := "GoingDarkModel") (T := Tf7) (N := 35) (n := 35) hts lay7 (hts _ (gw3 130 rfl rfl))
  refine ⟨(fun k => match k with | 0 => c0 | 1 => c1 | 2 => c2 | 3 => c3 | 4 => c4 | 5 => c5 | 6 => c6 | _ => c7, fun k => match k with | 0 => i0 | 1 => i1 | 2 => i2 | 3 => i3 | 4 => i4 | 5 => i5 | 6 => i6 | _ => i7), ?_⟩
  intro k q hq
  match k, hq with
  | 0, hq => cases hq; exact k0
  | 1, hq => cases hq; exact k1
  | 2, hq => cases hq; exact k2
  | 3, hq => cases hq; exact k3
  | 4, hq => cases hq; exact k4
  | 5, hq => cases hq; exact k5
  | 6, hq => cases hq; exact k6
  | 7, hq => cases hq; exact k7
  | k + 8, hq => simp [cls] at hq
/-- the text "lfsio" and the static, at the start -/
theorem txt_start {b : Nat} {s : State} (hts0 : ∀ w ∈ lw_tbl, w.before #[Value.ref b] s = true) (hts : ∀ w ∈ GW, w.before #[Value.ref b] s = true) (hgv : (Jvm.Cond.and given_1 narrow_1).before #[Value.ref b] s = true) : ∃ t u : Nat, vk_R "GoingDark$Page" 43 "lfsio" t s ∧ vk_R "GoingDark$Strait" 51 "lfsio" t s ∧ vk_S 1 [5] [sBy] (fun _ => t) (fun _ => u) (fun q => s.heap.size ≤ q) s s.heap ∧ va_Z "java/lang/String" "COMPACT_STRINGS" "Z" (.int 1) (fun q => s.heap.size ≤ q) s s.heap := by
  have hs := flat_of_before _ hgv
  have hA : ∀ a : Nat, a < s.heap.size → ¬ (fun q : Nat => s.heap.size ≤ q) a := fun a h => Nat.not_le.mpr h
  obtain ⟨tk, tv, h1, h2⟩ := vk_Sof (args := #[Value.ref b]) (s := s) (N := 1) (tm := fun _ => .string "GoingDark$Page" 43) (len := [5]) (byt := [sBy]) (A := fun q : Nat => s.heap.size ≤ q)
    (fun i hi => by obtain rfl : i = 0 := by omega
                    decide)
    (fun i hi => hs _ (by decide +kernel)) (fun i hi => hs _ (by decide +kernel)) (fun i hi => hs _ (by decide +kernel))
    (fun i hi => by obtain rfl : i = 0 := by omega
                    exact hs (Cond.eq (.length (.field (.string "GoingDark$Page" 43) "java/lang/String" "value" "[B")) (.int 5)) (by decide +kernel))
    (fun i hi j hj => by
      obtain rfl : i = 0 := by omega
      have hj : j < 5 := hj
      match j, hj with
      | 0, _ => exact hs (Cond.eq (.elem (.field (.string "GoingDark$Page" 43) "java/lang/String" "value" "[B") (.int 0)) (.int 108)) (by decide +kernel)
      | 1, _ => exact hs (Cond.eq (.elem (.field (.string "GoingDark$Page" 43) "java/lang/String" "value" "[B") (.int 1)) (.int 102)) (by decide +kernel)
      | 2, _ => exact hs (Cond.eq (.elem (.field (.string "GoingDark$Page" 43) "java/lang/String" "value" "[B") (.int 2)) (.int 115)) (by decide +kernel)
      | 3, _ => exact hs (Cond.eq (.elem (.field (.string "GoingDark$Page" 43) "java/lang/String" "value" "[B") (.int 3)) (.int 105)) (by decide +kernel)
      | 4, _ => exact hs (Cond.eq (.elem (.field (.string "GoingDark$Page" 43) "java/lang/String" "value" "[B") (.int 4)) (.int 111)) (by decide +kernel)
      | n + 5, h => exact absurd h (by omega))
    (fun i j hi hj hne => by omega) hA
  have e1 := h2 0 (by decide)
  have e2 := va_eqR (hs (Cond.eq (.string "GoingDark$Page" 43) (.string "GoingDark$Strait" 51)) (by decide +kernel)) e1
  refine ⟨tk 0, tv 0, vk_R.of (hts0 _ (tb2 9 rfl)) e1, vk_R.of (hts0 _ (tb2 116 rfl)) e2, ⟨fun i hi => ?_, fun i j hi hj _ => by omega⟩, va_Zof (hts0 _ (tb2 23 rfl)) (hts _ (gw1 10 rfl rfl)) (va_eqi (hs _ (by decide +kernel))) hA⟩
  obtain rfl : i = 0 := by omega
  exact h1.1 0 (by decide)
/-- from the law's loop on, given the world that the two constructors made -/
theorem from_loop {p : Program} {l : Launch} {e : Env} {s : State} {m : MethodId} {below : List Frame} {meth : Method} {c : Code} {b L : Nat} {xs : Nat → Int32} {D : va_G} {cI : ClassId} {q1 q2 : Nat} {f1 f2 : Nat → Nat} {H : Heap} {locs : List Loc} {ls : Array Slot} (hL : L ≤ 384) (C0 : lw_At p s m meth c b L xs) (hK : va_K D cls [(cI, .int)] s)
    (hP : va_P D cls (wGD cI f1 q1 ++ wM cI f2 q2) H) (hD : va_D (fun q : Nat => s.heap.size ≤ q) (wGD cI f1 q1 ++ wM cI f2 q2)) (hS : va_S (fun q : Nat => s.heap.size ≤ q) s.heap H locs) (hl : lv_has ls 4 [(0, .ref b), (1, .ref q1), (2, .ref q2), (3, .int 0)]) : W p l e room_1 s m #[Value.ref b] below meth c H locs 88 518 (lw_Z below #[Value.ref b] s) (F0 m 18 ls []) := by
  obtain ⟨hx, hb, hr, hml, hown, hts0, hX, hbl, hlocks, hgv⟩ := C0
  have hts : ∀ w ∈ GW, w.before #[Value.ref b] s = true := fun w hw => hts0 w (GW_good w hw).1
  obtain ⟨t, u, t1, t2, t3, t4⟩ := txt_start hts0 hts hgv
  obtain ⟨ad, had⟩ : ∃ ad, ad = adF q1 q2 f1 f2 t u b := ⟨_, rfl⟩
  have hpos := wp_all cI q1 q2 f1 f2 t u b
  rw [← had] at hpos
  have hAA : ∀ q, AA ad q → s.heap.size ≤ q := by
    rintro q ⟨i, hi, rfl⟩
    exact hD.2 _ _ (hpos i hi)
  have hIn : Inj ad := fun i j hi hj h => posN_inj i hi j hj (hD.1 _ _ _ _ (hpos i hi) (hpos j hj) h)
  have hPo : va_P D cls (wsO ad cI h00) H := by
    intro k q hq
    have hk : k < 88 := by
      have := (List.getElem?_eq_some_iff.mp hq).1
      simpa [wsO] using this
    rw [ws_at ad cI h00 hk] at hq
    cases hq
    exact hP _ _ (hpos k hk)
  have e88 : ad 88 = t := by rw [had]; rfl
  have e89 : ad 89 = u := by rw [had]; rfl
  have e90 : ad 90 = b := by rw [had]; rfl
  have e0 : ad 0 = q1 := by rw [had]; rfl
  have e73 : ad 73 = q2 := by rw [had]; rfl
  have hXT : XT ad s := ⟨nw_start hts0, by rw [e88]; exact t1, by rw [e88]; exact t2, by rw [e88, e89]; exact t3.narrow hAA, t4.narrow hAA⟩
  have C : CX none 8 12 code 4 (p, l, e, room_1, s, m, #[Value.ref b], below, meth, c, D, ad, cI, 4, 88, 518, lw_Z below #[Value.ref b] s) := ⟨rfl, hx, hb, hml, hown, hts, hK, hIn, hXT, ⟨Nat.le_of_ble_eq_true rfl, Nat.le_of_ble_eq_true rfl⟩, ⟨Nat.le_of_ble_eq_true rfl, Nat.le_of_ble_eq_true rfl⟩, hlocks, trivial⟩
  have hS2 : SX (p, l, e, room_1, s, m, #[Value.ref b], below, meth, c, D, ad, cI, 4, 88, 518, lw_Z below #[Value.ref b] s) L xs := by
    show va_X (ad 90) L xs s s.heap ∧ ad 90 < s.heap.size ∧ ¬ AA ad (ad 90)
    rw [e90]
    exact ⟨hX, hbl, fun h => absurd (hAA _ h) (Nat.not_le.mpr hbl)⟩
  have fin : ∀ lv h, V (p, l, e, room_1, s, m, #[Value.ref b], below, meth, c, D, ad, cI, 4, 88, 518, lw_Z below #[Value.ref b] s) 754 lv [.int 1] h := by
    intro lv h H locs ls hP hS hl
    refine va_forget (fun q hq => hAA _ (hS.2.2 q hq)) ?_
    refine W.widen (k := 682862) (n := 7053661) (Nat.le_of_ble_eq_true rfl) (Nat.le_of_ble_eq_true rfl) ?_
    exact lw_ret hx hb hr hlocks dw_754
  refine va_forget (fun q hq => hS.2.2 q hq) ?_
  refine law_loop C hS2 hL fin L 0 0 h00 (by omega) (by omega) nI_0.symm Inv_00 H [] ls hPo ⟨hS.1, fun q h1 h2 => hS.2.1 q h1 (Nat.not_le.mpr h1), fun l h => by cases h⟩ ?_
  have hl2 : lv_has ls 4 [(0, .ref (ad 90)), (1, .ref (ad 0)), (2, .ref (ad 73)), (3, .int 0)] := by rw [e90, e0, e73]; exact hl
  exact hl2
set_option maxHeartbeats 4000000 in
set_option maxRecDepth 100000 in
theorem whole_start {p : Program} {e : Env} {s : State} {m : MethodId} {below : List Frame} {meth : Method} {c : Code} (l : Launch) {b L : Nat} {xs : Nat → Int32} (hL : L ≤ 384) (C0 : lw_At p s m meth c b L xs) : W p l e room_1 s m #[Value.ref b] below meth c s.heap [] 0 0 (lw_Z below #[Value.ref b] s) (entryFrame m ([Value.ref b] : List Value).toArray 4) := by
  obtain ⟨hx, hb, hr, hml, hown, hts0, hX, hbl, hlocks, hgv⟩ := id C0
  have hts : ∀ w ∈ GW, w.before #[Value.ref b] s = true := fun w hw => hts0 w (GW_good w hw).1
  have hNW : ∀ w ∈ NW, va_Nw w s := nw_start hts0
  obtain ⟨D, hKc⟩ := cls_start hts
  obtain ⟨cI, hK⟩ := arr_start hKc (hts _ (gw1 43 rfl rfl))
  have hA : ∀ q : Nat, s.heap.size ≤ q → (fun q : Nat => s.heap.size ≤ q) q := fun _ h => h
  have hS : va_S (fun q : Nat => s.heap.size ≤ q) s.heap s.heap [] := va_S.rf
  have hP : va_P D cls ([] : va_W) s.heap := fun k q h => by simp at h
  have hD : va_D (fun q : Nat => s.heap.size ≤ q) ([] : va_W) := ⟨fun i j p q h => by simp at h, fun k q h => by simp at h⟩
  have hl := lv_entry ([.ref b]) (n := 4) (Nat.le_of_ble_eq_true rfl)
  rw [lg_entry_eq]
  generalize (lg_sl ([.ref b]) ++ List.replicate (4 - (lg_sl ([.ref b])).length) Slot.unset).toArray = ls at hl ⊢
  have hl : lv_has ls 4 [(0, .ref b)] := hl
  refine va_new (ci := 6) (fs := [.null, .null, .null, .null, .null, .null, .null, .null, .int 0, .int 0]) (C := "GoingDark") (T := Tf6) (N := 10) hx hb hts lay6 tf6 tfo6 hown (hts _ (gw1 16 rfl rfl)) (hts _ (gw1 17 rfl rfl)) (hts _ (gw1 1 rfl rfl)) hK hP hD hS hA rfl (fun j hj => by rcases (show j = 0 ∨ j = 1 ∨ j = 2 ∨ j = 3 ∨ j = 4 ∨ j = 5 ∨ j = 6 ∨ j = 7 ∨ j = 8 ∨ j = 9 by omega) with rfl | rfl | rfl | rfl | rfl | rfl | rfl | rfl | rfl | rfl <;> rfl) (Nat.le_of_ble_eq_true rfl) (Nat.le_of_ble_eq_true rfl) dw_0 (fun q1 H hP hD hS => ?_)
  refine W.widen (k := 1) (n := 10) (Nat.le_of_ble_eq_true rfl) (Nat.le_of_ble_eq_true rfl) ?_
  refine lv_dup hx hb dw_3 rfl ?_
  refine mk_call (q := q1) (rest := [.ref q1]) [] hx hb hml hown hts hNW hK hP hD hS hA (ct_GD_init D cI) mdN_GD rfl (gw1 18 rfl rfl) rfl rfl ⟨Nat.le_of_ble_eq_true rfl, Nat.le_of_ble_eq_true rfl⟩ hl.1 (Nat.le_of_ble_eq_true rfl) ⟨Nat.le_of_ble_eq_true rfl, Nat.le_of_ble_eq_true rfl⟩ dw_4 (fun f1 H locs hP hD hS => ?_)
  refine W.widen (k := 73) (n := 285) (Nat.le_of_ble_eq_true rfl) (Nat.le_of_ble_eq_true rfl) ?_
  have hP : va_P D cls (wGD cI f1 q1) H := hP
  have hD : va_D (fun q : Nat => s.heap.size ≤ q) (wGD cI f1 q1) := hD
  refine lv_astore_n (lv' := [(1, .ref q1), (0, .ref b)]) hx hb dw_7 rfl hl (by decide) rfl (fun ls hl => ?_)
  refine va_new (ci := 7) (fs := [.null, .int 0, .null, .int 0, .int 0, .int 0, .int 0, .int 0, .int 0, .int 0, .int 0, .int 0, .int 0, .null, .int 0, .null, .null, .null, .null, .int 0, .null, .null, .null, .int 0, .null, .int 0, .int 0, .int 0, .int 0, .int 0, .int 0, .null, .null, .null, .long 0]) (C := "GoingDarkModel") (T := Tf7) (N := 35) hx hb hts lay7 tf7 tfo7 hown (hts _ (gw3 129 rfl rfl)) (hts _ (gw3 130 rfl rfl)) (hts _ (gw1 9 rfl rfl)) hK hP hD hS hA rfl (fun j hj => by rcases (show j = 0 ∨ j = 1 ∨ j = 2 ∨ j = 3 ∨ j = 4 ∨ j = 5 ∨ j = 6 ∨ j = 7 ∨ j = 8 ∨ j = 9 ∨ j = 10 ∨ j = 11 ∨ j = 12 ∨ j = 13 ∨ j = 14 ∨ j = 15 ∨ j = 16 ∨ j = 17 ∨ j = 18 ∨ j = 19 ∨ j = 20 ∨ j = 21 ∨ j = 22 ∨ j = 23 ∨ j = 24 ∨ j = 25 ∨ j = 26 ∨ j = 27 ∨ j = 28 ∨ j = 29 ∨ j = 30 ∨ j = 31 ∨ j = 32 ∨ j = 33 ∨ j = 34 by omega) with rfl | rfl | rfl | rfl | rfl | rfl | rfl | rfl | rfl | rfl | rfl | rfl | rfl | rfl | rfl | rfl | rfl | rfl | rfl | rfl | rfl | rfl | rfl | rfl | rfl | rfl | rfl | rfl | rfl | rfl | rfl | rfl | rfl | rfl | rfl <;> rfl) (Nat.le_of_ble_eq_true rfl) (Nat.le_of_ble_eq_true rfl) dw_8 (fun q2 H hP hD hS => ?_)
  refine W.widen (k := 74) (n := 320) (Nat.le_of_ble_eq_true rfl) (Nat.le_of_ble_eq_true rfl) ?_
  refine lv_dup hx hb dw_11 rfl ?_
  refine mk_call (q := q2) (rest := [.ref q2]) [] hx hb hml hown hts hNW hK hP hD hS hA (ct_M_init D cI) mdN_M rfl (gw3 131 rfl rfl) rfl rfl ⟨Nat.le_of_ble_eq_true rfl, Nat.le_of_ble_eq_true rfl⟩ hl.1 (Nat.le_of_ble_eq_true rfl) ⟨Nat.le_of_ble_eq_true rfl, Nat.le_of_ble_eq_true rfl⟩ dw_12 (fun f2 H locs hP hD hS => ?_)
  refine W.widen (k := 88) (n := 518) (Nat.le_of_ble_eq_true rfl) (Nat.le_of_ble_eq_true rfl) ?_
  refine lv_astore_n (lv' := [(2, .ref q2), (1, .ref q1), (0, .ref b)]) hx hb dw_15 rfl hl (by decide) rfl (fun ls hl => ?_)
  refine lv_iconst (v := 0) hx hb dw_16 (by decide) ?_
  refine lv_istore_n (lv' := [(3, .int 0), (2, .ref q2), (1, .ref q1), (0, .ref b)]) hx hb dw_17 rfl hl (by decide) rfl (fun ls hl => ?_)
  exact from_loop hL C0 hK hP hD hS (lv_sub hl [3, 2, 1, 0] rfl)
