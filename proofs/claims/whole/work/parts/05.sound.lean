def NF : Nat → Nat := fun k => match k with
  | 0 => 1
  | 1 => 7
  | 2 => 10
  | 3 => 2
  | 4 => 1
  | 5 => 6
  | 6 => 10
  | _ => 35
theorem cls_ok {ci : Nat} (h : ci < 8) : cls[ci]? = some (ow ci, Tf ci, NF ci) ∧ (∀ w ∈ u_ws (ow ci) (Tf ci) (NF ci), w ∈ GW) ∧ (∀ k, k < NF ci → parseFieldDescriptor ((Tf ci) k).2.2.1 = some (tf ci k)) ∧ (∀ a, a < NF ci → ∀ b, b < NF ci → a ≠ b → ((Tf ci) a).2.1 ≠ ((Tf ci) b).2.1) ∧ (∀ k, k < NF ci → ((Tf ci) k).1 = ow ci) := by
  match ci, h with
  | 0, _ => exact ⟨rfl, lay0, tfo0, nf0, by decide +kernel⟩
  | 1, _ => exact ⟨rfl, lay1, tfo1, nf1, by decide +kernel⟩
  | 2, _ => exact ⟨rfl, lay2, tfo2, nf2, by decide +kernel⟩
  | 3, _ => exact ⟨rfl, lay3, tfo3, nf3, by decide +kernel⟩
  | 4, _ => exact ⟨rfl, lay4, tfo4, nf4, by decide +kernel⟩
  | 5, _ => exact ⟨rfl, lay5, tfo5, nf5, by decide +kernel⟩
  | 6, _ => exact ⟨rfl, lay6, tfo6, nf6, by decide +kernel⟩
  | 7, _ => exact ⟨rfl, lay7, tfo7, nf7, by decide +kernel⟩
theorem sh_all : (List.range 88).all (fun i => match nth shL i with | some (.inl (ci, fl)) => Nat.blt ci 8 && Nat.beq fl.length (NF ci) | _ => true) = true := by decide +kernel
theorem sh_ok {i ci : Nat} {fl : List (Option (Option Nat))} (hs : nth shL i = some (.inl (ci, fl))) : ci < 8 ∧ fl.length = NF ci := by
  have h1 := List.all_eq_true.mp sh_all i (List.mem_range.mpr (shL_lt hs))
  rw [hs] at h1
  simp only [Bool.and_eq_true] at h1
  exact ⟨Nat.le_of_ble_eq_true h1.1, Nat.eq_of_beq_eq_true h1.2⟩
theorem ce_obj (ad : Nat → Nat) (cI : ClassId) (h : Hp) {i ci : Nat} {fl : List (Option (Option Nat))} (hs : nth shL i = some (.inl (ci, fl))) : ce ad cI h i = .inr (ci, fvs ad h i 0 fl) := by simp only [ce, hs]
theorem ce_arr (ad : Nat → Nat) (cI : ClassId) (h : Hp) {i n : Nat} (hs : nth shL i = some (.inr n)) : ce ad cI h i = .inl (cI, n, .inl (h.1 i)) := by simp only [ce, hs]
theorem ws_obj (ad : Nat → Nat) (cI : ClassId) (h : Hp) {i ci : Nat} {fl : List (Option (Option Nat))} (hs : nth shL i = some (.inl (ci, fl))) : (wsO ad cI h)[i]? = some (ad i, .inr (ci, fvs ad h i 0 fl)) := by rw [ws_at ad cI h (shL_lt hs), ce_obj ad cI h hs]
theorem ws_arr (ad : Nat → Nat) (cI : ClassId) (h : Hp) {i n : Nat} (hs : nth shL i = some (.inr n)) : (wsO ad cI h)[i]? = some (ad i, .inl (cI, n, .inl (h.1 i))) := by rw [ws_at ad cI h (shL_lt hs), ce_arr ad cI h hs]
theorem ws_putI (ad : Nat → Nat) (cI : ClassId) (h : Hp) {i ci k : Nat} {fl : List (Option (Option Nat))} (hs : nth shL i = some (.inl (ci, fl))) (hk : nth fl k = some (some none)) (x : Int32) : (wsO ad cI h).set i (ad i, .inr (ci, (fvs ad h i 0 fl).set k (.int x))) = wsO ad cI (up2 h.1 i k x, h.2) := by
  refine ws_set ad cI h _ (shL_lt hs) ?_ (fun a ha => ce_congr ad cI _ _ a (fun b => (up2_a h.1 i k x ha).symm) (Or.inl rfl))
  rw [ce_obj ad cI _ hs]
  refine congrArg (fun z => Sum.inr (ci, z)) ?_
  apply List.ext_getElem?
  intro j
  rw [List.getElem?_set, fvs_at, fvs_at, fvs_len]
  rw [nth_eq] at hk
  by_cases hj : k = j
  · subst hj
    rw [if_pos rfl, if_pos (List.getElem?_eq_some_iff.mp hk).1, hk]
    simp [fvA, cv, up2]
  · rw [if_neg hj]
    cases hf : fl[j]? with
    | none => rfl
    | some f =>
      simp only [Option.map_some, Option.some.injEq]
      match f with
      | some (some t) => rfl
      | some none => simp only [fvA, cv, Nat.zero_add]; rw [up2_b h.1 i k x (Ne.symm hj)]
      | none => rfl
theorem ws_putL (ad : Nat → Nat) (cI : ClassId) (h : Hp) {fl : List (Option (Option Nat))} (hs : nth shL 73 = some (.inl (7, fl))) (x : Int64) : (wsO ad cI h).set 73 (ad 73, .inr (7, (fvs ad h 73 0 fl).set 34 (.long x))) = wsO ad cI (h.1, x) := by
  refine ws_set ad cI h _ (shL_lt hs) ?_ (fun a ha => ce_congr ad cI _ _ a (fun b => rfl) (Or.inr (no_long ha)))
  rw [ce_obj ad cI _ hs]
  refine congrArg (fun z => Sum.inr (7, z)) ?_
  have hfl : fl = [some (some 74), some none, some (some 75), some none, some none, some none, some none, some none, some none, some none, some none, some none, some none, some (some 76), some none, some (some 77), some (some 78), some (some 79), some (some 80), some none, some (some 81), some (some 82), some (some 83), some none, some (some 84), some none, some none, some none, some none, some none, some none, some (some 85), some (some 86), some (some 87), none] := by
    have : nth shL 73 = some (.inl (7, [some (some 74), some none, some (some 75), some none, some none, some none, some none, some none, some none, some none, some none, some none, some none, some (some 76), some none, some (some 77), some (some 78), some (some 79), some (some 80), some none, some (some 81), some (some 82), some (some 83), some none, some (some 84), some none, some none, some none, some none, some none, some none, some (some 85), some (some 86), some (some 87), none])) := rfl
    rw [this] at hs
    cases hs
    rfl
  subst hfl
  rfl
theorem ws_putA (ad : Nat → Nat) (cI : ClassId) (h : Hp) {i n : Nat} (hs : nth shL i = some (.inr n)) (k : Nat) (x : Int32) : (wsO ad cI h).set i (ad i, .inl (cI, n, .inl (upd (h.1 i) k x))) = wsO ad cI (up2 h.1 i k x, h.2) := by
  refine ws_set ad cI h _ (shL_lt hs) ?_ (fun a ha => ce_congr ad cI _ _ a (fun b => (up2_a h.1 i k x ha).symm) (Or.inl rfl))
  rw [ce_arr ad cI _ hs]
  have : upd (h.1 i) k x = (up2 h.1 i k x) i := by
    funext j
    simp [upd, up2]
  rw [this]
theorem catS_eq : ∀ l : List Value, (l.map fun v => v.category).sum = catS l
  | [] => rfl
  | v :: t => by
    simp only [List.map_cons, List.sum_cons, catS_eq t, catS]
    cases v <;> rfl
theorem popN_ok : ∀ (n : Nat) (acc st : List Value) {as rest : List Value}, popN n acc st = some (as, rest) → ∃ bs : List Value, as = bs.reverse ++ acc ∧ st = bs ++ rest ∧ bs.length = n
  | 0, acc, st, as, rest, h => by
    cases h
    exact ⟨[], rfl, rfl, rfl⟩
  | n + 1, acc, [], as, rest, h => by cases h
  | n + 1, acc, v :: st, as, rest, h => by
    obtain ⟨bs, h1, h2, h3⟩ := popN_ok n (v :: acc) st h
    exact ⟨v :: bs, by rw [h1]; simp, by rw [h2]; rfl, by simp [h3]⟩
theorem gI_ok {lv : List (Option Value)} {k : Nat} {x : Int32} (h : gI lv k = some x) : nth lv k = some (some (.int x)) := by
  unfold gI at h
  split at h
  · rename_i y hy
    cases h
    exact hy
  · cases h
theorem gR_ok {lv : List (Option Value)} {k : Nat} {x : Nat} (h : gR lv k = some x) : nth lv k = some (some (.ref x)) := by
  unfold gR at h
  split at h
  · rename_i y hy
    cases h
    exact hy
  · cases h
theorem gL_ok {lv : List (Option Value)} {k : Nat} {x : Int64} (h : gL lv k = some x) : nth lv k = some (some (.long x)) := by
  unfold gL at h
  split at h
  · rename_i y hy
    cases h
    exact hy
  · cases h
theorem smI_of {b : Nat} {n : Int} {v : Int32} (h : smI b n = some v) : Int32.ofInt n = v := by
  rw [kI_eq]
  unfold smI at h
  match n, h with
  | .ofNat k, h =>
    simp only at h
    cases hb : Nat.blt k b with
    | false => rw [hb] at h; cases h
    | true =>
      rw [hb] at h
      cases h
      rfl
  | .negSucc k, h =>
    simp only at h
    cases hb : Nat.blt k b with
    | false => rw [hb] at h; cases h
    | true =>
      rw [hb] at h
      cases h
      rfl
theorem jmp_ok {pc : Nat} {off : Int} {K : Nat → Prop} (h : jmp pc off K) : ∃ t : Nat, (pc : Int) + off = (t : Int) ∧ K t := by
  unfold jmp at h
  split at h
  · rename_i t ht
    exact ⟨t, ht, h⟩
  · exact h.elim
def isSw (ins : Instr) : Bool := match ins with
  | .tableswitch .. => true
  | .lookupswitch .. => true
  | _ => false
theorem lks_ok {x : Int32} {dflt : Int} {J : Int → Prop} : ∀ {ps : List (Int × Int)}, lks x dflt ps J → J (Op.lookupswitch.offset ps dflt x.toInt)
  | [], h => h
  | (a, o) :: r, h => by
    rw [Op.lookupswitch.offset_cons]
    by_cases ha : a = x.toInt
    · rw [if_pos ha]
      exact h.1 ha.symm
    · rw [if_neg ha]
      exact lks_ok (h.2 (Ne.symm ha))
theorem swt_ok {x : Int32} {J : Int → Prop} : ∀ {offs : List Int} {lo : Int} {k : Nat} {off : Int}, swt x lo offs J → x.toInt = lo + k → offs[k]? = some off → J off
  | [], lo, k, off, _, _, h => by simp at h
  | o :: t, lo, 0, off, h, hx, ho => by
    simp at ho
    subst ho
    have h1 := h.1
    split at h1
    · rename_i v hv
      refine h1 ?_
      rw [← smI_of hv, show lo = x.toInt by omega]
      exact (Int32.ofInt_toInt x).symm
    · exact h1.elim
  | o :: t, lo, k + 1, off, h, hx, ho => by
    refine swt_ok (k := k) h.2 ?_ (by simpa using ho)
    rw [hx]
    omega
section
variable {p : Program} {l : Launch} {e : Env} {R : Room} {s : State} {m : MethodId} {args : Array Value} {below : List Frame} {meth : Method} {c : Code} {H : Heap} {locs : List Loc} {cells slots : Nat} {Q : State → Prop} {D : va_G} {ad : Nat → Nat} {cI : ClassId}
theorem call_go {pc : Nat} {ls : Array Slot} {st0 rest : List Value} {post : PT} {a : Array Value} (hr : va_Run p l e R s m args below meth c H locs cells slots 0 0 (F0 m pc ls st0) rest (QC D ad cI post a) (AA ad)) (hS : va_S (AA ad) s.heap H locs)
    (kk : ∀ (r : Option Value) (h' : Hp) (H1 : Heap) (locs1 : List Loc), post r h' → va_P D cls (wsO ad cI h') H1 → va_S (AA ad) s.heap H1 locs1 → W p l e R s m args below meth c H1 locs1 cells slots Q (F0 m (pc + 3) ls ((r.map (cv ad)).toList ++ rest))) : W p l e R s m args below meth c H locs cells slots Q (F0 m pc ls st0) := by
  intro T hT X
  obtain ⟨v, st₀, t, T', L, h0, X', hL, e1, e2, ⟨r, h', hpost, hv, hp, hz, hk⟩, st⟩ := hr T hT X
  cases hv
  rw [h0] at hz hk
  obtain ⟨t2, a1, b1⟩ := kk r h' T'.heap (locs ++ L) hpost (by rw [e1]; exact hp)
    ⟨Nat.le_trans hS.1 (by rw [e1]; exact hz), fun q h1 h2 => by rw [e1, hk q (Nat.lt_of_lt_of_le h1 hS.1) h2]; exact hS.2.1 q h1 h2, fun q hq => by
      rcases List.mem_append.mp hq with h | h
      · exact hS.2.2 q h
      · exact hL q h⟩ T' rfl X'
  exact ⟨t2, st t2 a1, b1⟩
theorem pre_blind (as : List Value) (h : Hp) : FrameBlind (va_Pc (as.map (cv ad)) (PC D ad cI h)) := fun a U g mk q => ⟨q.1, q.2.1, va_K.moved (u := U) (U := U.calling g mk a) (Vm.Alike.refl U.vm) q.2.2.1, XT.blind g mk a q.2.2.2⟩
theorem pre_at {h : Hp} (hP : va_P D cls (wsO ad cI h) H) (hS : va_S (AA ad) s.heap H locs) (hK : va_K D cls [(cI, .int)] s) (hX : XT ad s) (U : State) (hU : U.heap = H) (hW : s.WarmedH U.vm) : PC D ad cI h U := ⟨by rw [hU]; exact hP, va_K.moved hW.alike hK, XT.moved hW (fun a h1 h2 => by rw [hU]; exact hS.2.1 a h1 h2) hX⟩
theorem good_all {L : List Cond} (h : ∀ w ∈ L, w ∈ GW) : GoodIn GW L := fun w hw => GW_self w (h w hw)
theorem ret_map (ad : Nat → Nat) (r : Option Value) (rest : List Value) : (r.map (cv ad)).toList ++ rest.map (cv ad) = (r.toList ++ rest).map (cv ad) := by cases r <;> rfl
end
set_option maxHeartbeats 4000000 in
set_option maxRecDepth 100000 in
theorem stp_ok {E : RT} {own d nL : Nat} {cc : ByteArray} {X : MC} {ins : Instr} {len pc : Nat} {lv : List (Option Value)} {st : List Value} {h : Hp} {K : KT} (C : CX E own d cc nL X) (hd : decode cc pc = .ok (ins, len)) (hlen : (Nat.beq len (lenO ins) || isSw ins) = true) (hs : stp E own d nL ins pc lv st h K) (hK : ∀ pc lv st h, K pc lv st h → V X pc lv st h) : V X pc lv st h := by
  obtain ⟨p, l, e, R, s, m, args, below, meth, c, D, ad, cI, nL', cells, slots, Q⟩ := X
  obtain ⟨rfl, hx, hb, hml, hown, hts, hKK, hinj, hXT, hroom, hdep, hlocks, hE⟩ := C
  intro H locs ls hP hS hl
  have le1 : isSw ins = false → len = lenO ins := fun h0 => by
    rw [h0, Bool.or_false] at hlen
    exact Nat.eq_of_beq_eq_true hlen
  have hD := ws_D hinj cI h
  cases ins with
  | iconst n =>
    have hl1 := le1 rfl
    subst hl1
    simp only [stp] at hs
    split at hs
    · rename_i v hv
      exact lv_iconst hx hb hd (smI_of hv) (hK _ _ _ _ hs H locs ls hP hS hl)
    · exact hs.elim
  | bipush n =>
    have hl1 := le1 rfl
    subst hl1
    simp only [stp] at hs
    split at hs
    · rename_i v hv
      exact lv_bipush hx hb hd (smI8 hv) (hK _ _ _ _ hs H locs ls hP hS hl)
    · exact hs.elim
  | sipush n =>
    have hl1 := le1 rfl
    subst hl1
    simp only [stp] at hs
    split at hs
    · rename_i v hv
      exact lv_sipush hx hb hd (smI16 hv) (hK _ _ _ _ hs H locs ls hP hS hl)
    · exact hs.elim
  | lconst n =>
    have hl1 := le1 rfl
    subst hl1
    exact lv_lconst hx hb hd rfl (hK _ _ _ _ hs H locs ls hP hS hl)
  | ldc i =>
    have hl1 := le1 rfl
    subst hl1
    simp only [stp] at hs
    split at hs
    · rename_i v hv
      exact lv_ldc hx hb hown (hts _ (kT_ok own _ (lk_mem hv))) hd (hK _ _ _ _ hs H locs ls hP hS hl)
    · cases hc : (Nat.beq own 3 && Nat.beq i 43) with
      | true =>
        rw [hc, Bool.true_or, cond_true] at hs
        simp only [Bool.and_eq_true] at hc
        have h1 := Nat.eq_of_beq_eq_true hc.1
        have h2 := Nat.eq_of_beq_eq_true hc.2
        subst h1
        subst h2
        exact va_ldcS hx hb hown hXT.2.1 hd (hK _ _ _ _ hs H locs ls hP hS hl)
      | false =>
        rw [hc, Bool.false_or] at hs
        cases hc2 : (Nat.beq own 5 && Nat.beq i 51) with
        | true =>
          rw [hc2, cond_true] at hs
          simp only [Bool.and_eq_true] at hc2
          have h1 := Nat.eq_of_beq_eq_true hc2.1
          have h2 := Nat.eq_of_beq_eq_true hc2.2
          subst h1
          subst h2
          exact va_ldcS hx hb hown hXT.2.2.1 hd (hK _ _ _ _ hs H locs ls hP hS hl)
        | false =>
          rw [hc2, cond_false] at hs
          exact hs.elim
  | ldc_w i =>
    have hl1 := le1 rfl
    subst hl1
    simp only [stp] at hs
    split at hs
    · rename_i v hv
      exact lv_ldcw hx hb hown (hts _ (kT_ok own _ (lk_mem hv))) hd (hK _ _ _ _ hs H locs ls hP hS hl)
    · exact hs.elim
  | ldc2_w i =>
    have hl1 := le1 rfl
    subst hl1
    simp only [stp] at hs
    split at hs
    · rename_i v hv
      exact lv_ldc2 hx hb hown (hts _ (lT_ok own _ (lk_mem hv))) hd (hK _ _ _ _ hs H locs ls hP hS hl)
    · exact hs.elim
  | iload_n k =>
    have hl1 := le1 rfl
    subst hl1
    simp only [stp] at hs
    split at hs
    · rename_i x hv
      exact lv_iload_n hx hb hd rfl (lv_get hl (gI_ok hv)) (hK _ _ _ _ hs H locs ls hP hS hl)
    · exact hs.elim
  | iload k =>
    have hl1 := le1 rfl
    subst hl1
    simp only [stp] at hs
    split at hs
    · rename_i x hv
      exact lv_iload hx hb hd (lv_get hl (gI_ok hv)) (hK _ _ _ _ hs H locs ls hP hS hl)
    · exact hs.elim
  | lload_n k =>
    have hl1 := le1 rfl
    subst hl1
    simp only [stp] at hs
    split at hs
    · rename_i x hv
      exact lv_lload_n hx hb hd rfl (lv_get hl (gL_ok hv)) (hK _ _ _ _ hs H locs ls hP hS hl)
    · exact hs.elim
  | lload k =>
    have hl1 := le1 rfl
    subst hl1
    simp only [stp] at hs
    split at hs
    · rename_i x hv
      exact lv_lload hx hb hd (lv_get hl (gL_ok hv)) (hK _ _ _ _ hs H locs ls hP hS hl)
    · exact hs.elim
  | aload_n k =>
    have hl1 := le1 rfl
    subst hl1
    simp only [stp] at hs
    split at hs
    · rename_i x hv
      exact lv_aload_n hx hb hd rfl (lv_get hl (gR_ok hv)) (hK _ _ _ _ hs H locs ls hP hS hl)
    · exact hs.elim
  | aload k =>
    have hl1 := le1 rfl
    subst hl1
    simp only [stp] at hs
    split at hs
    · rename_i x hv
      exact lv_aload hx hb hd (lv_get hl (gR_ok hv)) (hK _ _ _ _ hs H locs ls hP hS hl)
    · exact hs.elim
  | istore_n k =>
    have hl1 := le1 rfl
    subst hl1
    simp only [stp] at hs
    split at hs
    · rename_i x rest
      cases hc : Nat.blt k.val nL' with
      | false => rw [hc, cond_false] at hs; exact hs.elim
      | true =>
        rw [hc, cond_true] at hs
        exact lv_istore_n hx hb hd rfl hl (Nat.le_of_ble_eq_true hc) rfl (fun ls' hl' => hK _ _ _ _ hs H locs ls' hP hS (lv_mono hl' stI_sub))
    · exact hs.elim
  | istore k =>
    have hl1 := le1 rfl
    subst hl1
    simp only [stp] at hs
    split at hs
    · rename_i x rest
      cases hc : Nat.blt k nL' with
      | false => rw [hc, cond_false] at hs; exact hs.elim
      | true =>
        rw [hc, cond_true] at hs
        exact lv_istore hx hb hd hl (Nat.le_of_ble_eq_true hc) rfl (fun ls' hl' => hK _ _ _ _ hs H locs ls' hP hS (lv_mono hl' stI_sub))
    · exact hs.elim
  | astore_n k =>
    have hl1 := le1 rfl
    subst hl1
    simp only [stp] at hs
    split at hs
    · rename_i x rest
      cases hc : Nat.blt k.val nL' with
      | false => rw [hc, cond_false] at hs; exact hs.elim
      | true =>
        rw [hc, cond_true] at hs
        exact lv_astore_n hx hb hd rfl hl (Nat.le_of_ble_eq_true hc) rfl (fun ls' hl' => hK _ _ _ _ hs H locs ls' hP hS (lv_mono hl' stI_sub))
    · exact hs.elim
  | lstore_n k =>
    have hl1 := le1 rfl
    subst hl1
    simp only [stp] at hs
    split at hs
    · rename_i x rest
      cases hc : Nat.blt (k.val + 1) nL' with
      | false => rw [hc, cond_false] at hs; exact hs.elim
      | true =>
        rw [hc, cond_true] at hs
        exact lv_lstore_n hx hb hd rfl hl (Nat.le_of_ble_eq_true hc) rfl (fun ls' hl' => hK _ _ _ _ hs H locs ls' hP hS (lv_mono hl' stL_sub))
    · exact hs.elim
  | lstore k =>
    have hl1 := le1 rfl
    subst hl1
    simp only [stp] at hs
    split at hs
    · rename_i x rest
      cases hc : Nat.blt (k + 1) nL' with
      | false => rw [hc, cond_false] at hs; exact hs.elim
      | true =>
        rw [hc, cond_true] at hs
        exact lv_lstore hx hb hd hl (Nat.le_of_ble_eq_true hc) rfl (fun ls' hl' => hK _ _ _ _ hs H locs ls' hP hS (lv_mono hl' stL_sub))
    · exact hs.elim
  | iinc k n =>
    have hl1 := le1 rfl
    subst hl1
    simp only [stp] at hs
    split at hs
    · rename_i x hv
      cases hc : Nat.blt k nL' with
      | false => rw [hc, cond_false] at hs; exact hs.elim
      | true =>
        rw [hc, cond_true] at hs
        obtain ⟨q, hq1, hq2⟩ : ∃ q, (asc ad 0 lv)[q]? = some (k, Value.int x) ∧ True := by
          have h1 : (k, Value.int x) ∈ asc ad 0 lv := (mem_asc ad lv 0 _).mpr ⟨k, .int x, gI_ok hv, by rw [Nat.zero_add]; rfl⟩
          obtain ⟨q, hq⟩ := List.getElem?_of_mem h1
          exact ⟨q, hq, trivial⟩
        split at hs
        · rename_i v hv2
          exact lv_iinc hx hb hd hl hq1 (by rw [smI_of hv2]) (Nat.le_of_ble_eq_true hc) rfl (fun ls' hl' => hK _ _ _ _ hs H locs ls' hP hS (lv_mono hl' stI_sub))
        · exact hs.elim
    · exact hs.elim
  | iadd =>
    have hl1 := le1 rfl
    subst hl1
    simp only [stp] at hs
    split at hs
    · exact lv_iadd hx hb hd (hK _ _ _ _ hs H locs ls hP hS hl)
    · exact hs.elim
  | isub =>
    have hl1 := le1 rfl
    subst hl1
    simp only [stp] at hs
    split at hs
    · exact lv_isub hx hb hd (hK _ _ _ _ hs H locs ls hP hS hl)
    · exact hs.elim
  | imul =>
    have hl1 := le1 rfl
    subst hl1
    simp only [stp] at hs
    split at hs
    · exact lv_imul hx hb hd (hK _ _ _ _ hs H locs ls hP hS hl)
    · exact hs.elim
  | iand =>
    have hl1 := le1 rfl
    subst hl1
    simp only [stp] at hs
    split at hs
    · exact lv_iand hx hb hd (hK _ _ _ _ hs H locs ls hP hS hl)
    · exact hs.elim
  | ior =>
    have hl1 := le1 rfl
    subst hl1
    simp only [stp] at hs
    split at hs
    · exact lv_ior hx hb hd (hK _ _ _ _ hs H locs ls hP hS hl)
    · exact hs.elim
  | ixor =>
    have hl1 := le1 rfl
    subst hl1
    simp only [stp] at hs
    split at hs
    · exact lv_ixor hx hb hd (hK _ _ _ _ hs H locs ls hP hS hl)
    · exact hs.elim
  | ishl =>
    have hl1 := le1 rfl
    subst hl1
    simp only [stp] at hs
    split at hs
    · exact lv_ishl hx hb hd (hK _ _ _ _ hs H locs ls hP hS hl)
    · exact hs.elim
  | ishr =>
    have hl1 := le1 rfl
    subst hl1
    simp only [stp] at hs
    split at hs
    · exact lv_ishr hx hb hd (hK _ _ _ _ hs H locs ls hP hS hl)
    · exact hs.elim
  | idiv =>
    have hl1 := le1 rfl
    subst hl1
    simp only [stp] at hs
    split at hs
    · exact lv_idiv hx hb hd hs.1 (hK _ _ _ _ hs.2 H locs ls hP hS hl)
    · exact hs.elim
  | irem =>
    have hl1 := le1 rfl
    subst hl1
    simp only [stp] at hs
    split at hs
    · exact lv_irem hx hb hd hs.1 (hK _ _ _ _ hs.2 H locs ls hP hS hl)
    · exact hs.elim
  | ineg =>
    have hl1 := le1 rfl
    subst hl1
    simp only [stp] at hs
    split at hs
    · exact lv_ineg hx hb hd (hK _ _ _ _ hs H locs ls hP hS hl)
    · exact hs.elim
  | ladd =>
    have hl1 := le1 rfl
    subst hl1
    simp only [stp] at hs
    split at hs
    · exact lv_ladd hx hb hd (hK _ _ _ _ hs H locs ls hP hS hl)
    · exact hs.elim
  | lmul =>
    have hl1 := le1 rfl
    subst hl1
    simp only [stp] at hs
    split at hs
    · exact lv_lmul hx hb hd (hK _ _ _ _ hs H locs ls hP hS hl)
    · exact hs.elim
  | land =>
    have hl1 := le1 rfl
    subst hl1
    simp only [stp] at hs
    split at hs
    · exact lv_land hx hb hd (hK _ _ _ _ hs H locs ls hP hS hl)
    · exact hs.elim
  | iushr =>
    have hl1 := le1 rfl
    subst hl1
    simp only [stp] at hs
    split at hs
    · exact lv_iushr hx hb hd rfl (hK _ _ _ _ hs H locs ls hP hS hl)
    · exact hs.elim
  | i2l =>
    have hl1 := le1 rfl
    subst hl1
    simp only [stp] at hs
    split at hs
    · exact lv_i2l hx hb hd rfl (hK _ _ _ _ hs H locs ls hP hS hl)
    · exact hs.elim
  | l2i =>
    have hl1 := le1 rfl
    subst hl1
    simp only [stp] at hs
    split at hs
    · exact lv_l2i hx hb hd rfl (hK _ _ _ _ hs H locs ls hP hS hl)
    · exact hs.elim
  | i2c =>
    have hl1 := le1 rfl
    subst hl1
    simp only [stp] at hs
    split at hs
    · exact lv_i2c hx hb hd rfl (hK _ _ _ _ hs H locs ls hP hS hl)
    · exact hs.elim
  | i2b =>
    have hl1 := le1 rfl
    subst hl1
    simp only [stp] at hs
    split at hs
    · exact lv_i2b hx hb hd rfl (hK _ _ _ _ hs H locs ls hP hS hl)
    · exact hs.elim
  | lcmp =>
    have hl1 := le1 rfl
    subst hl1
    simp only [stp] at hs
    split at hs
    · exact W.lcmp hx hb hd (hK _ _ _ _ hs H locs ls hP hS hl)
    · exact hs.elim
  | dup =>
    have hl1 := le1 rfl
    subst hl1
    have hnw : ∀ {v : Value}, isW v = false → (cv ad v).category = 1 := fun {v} h0 => by
      rw [cv_cat]
      cases v <;> first | rfl | cases h0
    simp only [stp] at hs
    split at hs
    · rename_i v rest
      cases hc : isW v with
      | true => rw [hc, cond_true] at hs; exact hs.elim
      | false =>
        rw [hc, cond_false] at hs
        exact lv_dup hx hb hd (hnw hc) (hK _ _ _ _ hs H locs ls hP hS hl)
    · exact hs.elim
  | pop =>
    have hl1 := le1 rfl
    subst hl1
    have hnw : ∀ {v : Value}, isW v = false → (cv ad v).category = 1 := fun {v} h0 => by
      rw [cv_cat]
      cases v <;> first | rfl | cases h0
    simp only [stp] at hs
    split at hs
    · rename_i v rest
      cases hc : isW v with
      | true => rw [hc, cond_true] at hs; exact hs.elim
      | false =>
        rw [hc, cond_false] at hs
        exact lv_pop hx hb hd (hnw hc) (hK _ _ _ _ hs H locs ls hP hS hl)
    · exact hs.elim
  | dup2 =>
    have hl1 := le1 rfl
    subst hl1
    have hnw : ∀ {v : Value}, isW v = false → (cv ad v).category = 1 := fun {v} h0 => by
      rw [cv_cat]
      cases v <;> first | rfl | cases h0
    simp only [stp] at hs
    split at hs
    · rename_i v w rest
      cases hc : isW v with
      | true => rw [hc, cond_true] at hs; exact hs.elim
      | false =>
        rw [hc, cond_false] at hs
        cases hc2 : isW w with
        | true => rw [hc2, cond_true] at hs; exact hs.elim
        | false =>
          rw [hc2, cond_false] at hs
          exact lv_dup2_11 hx hb hd (hnw hc) (hnw hc2) (hK _ _ _ _ hs H locs ls hP hS hl)
    · exact hs.elim
  | goto off =>
    have hl1 := le1 rfl
    subst hl1
    obtain ⟨t, ht, hk⟩ := jmp_ok (show jmp pc off (fun t => K t lv st h) from hs)
    exact lv_goto hx hb hd ht (hK _ _ _ _ hk H locs ls hP hS hl)
  | ifCond c2 off =>
    have hl1 := le1 rfl
    subst hl1
    simp only [stp] at hs
    split at hs
    · rename_i x rest
      obtain ⟨t, ht, hk⟩ := jmp_ok hs
      cases c2 with
      | eq => exact lv_if_eq (tgt := t) hx hb hd ht (fun hc => hK _ _ _ _ (hk.1 hc) H locs ls hP hS hl) (fun hc => hK _ _ _ _ (hk.2 hc) H locs ls hP hS hl)
      | ne => exact lv_if_ne (tgt := t) hx hb hd ht (fun hc => hK _ _ _ _ (hk.1 hc) H locs ls hP hS hl) (fun hc => hK _ _ _ _ (hk.2 hc) H locs ls hP hS hl)
      | lt => exact lv_if_lt (tgt := t) hx hb hd ht (fun hc => hK _ _ _ _ (hk.1 hc) H locs ls hP hS hl) (fun hc => hK _ _ _ _ (hk.2 hc) H locs ls hP hS hl)
      | ge => exact lv_if_ge (tgt := t) hx hb hd ht (fun hc => hK _ _ _ _ (hk.1 hc) H locs ls hP hS hl) (fun hc => hK _ _ _ _ (hk.2 hc) H locs ls hP hS hl)
      | gt => exact lv_if_gt (tgt := t) hx hb hd ht (fun hc => hK _ _ _ _ (hk.1 hc) H locs ls hP hS hl) (fun hc => hK _ _ _ _ (hk.2 hc) H locs ls hP hS hl)
      | le => exact lv_if_le (tgt := t) hx hb hd ht (fun hc => hK _ _ _ _ (hk.1 hc) H locs ls hP hS hl) (fun hc => hK _ _ _ _ (hk.2 hc) H locs ls hP hS hl)
    · exact hs.elim
  | if_icmp c2 off =>
    have hl1 := le1 rfl
    subst hl1
    simp only [stp] at hs
    split at hs
    · rename_i y x rest
      obtain ⟨t, ht, hk⟩ := jmp_ok hs
      cases c2 with
      | eq => exact lv_icmp_eq (tgt := t) hx hb hd ht (fun hc => hK _ _ _ _ (hk.1 hc) H locs ls hP hS hl) (fun hc => hK _ _ _ _ (hk.2 hc) H locs ls hP hS hl)
      | ne => exact lv_icmp_ne (tgt := t) hx hb hd ht (fun hc => hK _ _ _ _ (hk.1 hc) H locs ls hP hS hl) (fun hc => hK _ _ _ _ (hk.2 hc) H locs ls hP hS hl)
      | lt => exact lv_icmp_lt (tgt := t) hx hb hd ht (fun hc => hK _ _ _ _ (hk.1 hc) H locs ls hP hS hl) (fun hc => hK _ _ _ _ (hk.2 hc) H locs ls hP hS hl)
      | ge => exact lv_icmp_ge (tgt := t) hx hb hd ht (fun hc => hK _ _ _ _ (hk.1 hc) H locs ls hP hS hl) (fun hc => hK _ _ _ _ (hk.2 hc) H locs ls hP hS hl)
      | gt => exact lv_icmp_gt (tgt := t) hx hb hd ht (fun hc => hK _ _ _ _ (hk.1 hc) H locs ls hP hS hl) (fun hc => hK _ _ _ _ (hk.2 hc) H locs ls hP hS hl)
      | le => exact lv_icmp_le (tgt := t) hx hb hd ht (fun hc => hK _ _ _ _ (hk.1 hc) H locs ls hP hS hl) (fun hc => hK _ _ _ _ (hk.2 hc) H locs ls hP hS hl)
    · exact hs.elim
  | tableswitch dflt lo hi offs =>
    simp only [stp] at hs
    split at hs
    · rename_i x rest
      cases hc : (hi - lo + 1 == (offs.toList.length : Int)) with
      | false => rw [hc, cond_false] at hs; exact hs.elim
      | true =>
        rw [hc, cond_true] at hs
        have hsz : hi - lo + 1 = (offs.toList.length : Int) := eq_of_beq hc
        by_cases h1 : x.toInt < lo ∨ hi < x.toInt
        · obtain ⟨t, ht, hk⟩ := jmp_ok (hs.1 h1)
          exact lv_tableOut hx hb hd h1 ht (hK _ _ _ _ hk H locs ls hP hS hl)
        · have h2 : ¬ x.toInt < lo := fun h => h1 (Or.inl h)
          have h3 : ¬ hi < x.toInt := fun h => h1 (Or.inr h)
          have h4 : (x.toInt - lo).toNat < offs.toList.length := by omega
          have h5 : offs.toList[(x.toInt - lo).toNat]? = some (offs.toList[(x.toInt - lo).toNat]) := List.getElem?_eq_getElem h4
          have h6 := swt_ok hs.2 (k := (x.toInt - lo).toNat) (by omega) h5
          obtain ⟨t, ht, hk⟩ := jmp_ok h6
          exact lv_tableIn hx hb hd h2 h3 (by rw [← Array.getElem?_toList]; exact h5) ht (hK _ _ _ _ hk H locs ls hP hS hl)
    · exact hs.elim
  | lookupswitch dflt ps =>
    simp only [stp] at hs
    split at hs
    · rename_i x rest
      cases hc : ((ps.toList.zip (ps.toList.drop 1)).all (fun (a, next) => a.1 < next.1)) with
      | false => rw [hc, cond_false] at hs; exact hs.elim
      | true =>
        rw [hc, cond_true] at hs
        obtain ⟨t, ht, hk⟩ := jmp_ok (lks_ok hs)
        exact lv_lookup hx hb hd hc rfl ht (hK _ _ _ _ hk H locs ls hP hS hl)
    · exact hs.elim
  | getfield i =>
    have hl1 := le1 rfl
    subst hl1
    simp only [stp] at hs
    split at hs
    · rename_i a rest
      split at hs
      · rename_i ci k nst hlk
        split at hs
        · rename_i ci' fl hsh
          cases hc : Nat.beq ci ci' with
          | false => rw [hc, cond_false] at hs; exact hs.elim
          | true =>
            rw [hc, cond_true] at hs
            have hcc := Nat.eq_of_beq_eq_true hc
            subst hcc
            split at hs
            · rename_i f hf
              obtain ⟨hci, hfl⟩ := sh_ok hsh
              obtain ⟨c1, c2, c3, c4, c5⟩ := cls_ok hci
              rw [nth_eq] at hf
              have hk : k < NF ci := by rw [← hfl]; exact (List.getElem?_eq_some_iff.mp hf).1
              have hv : (fvs ad h a 0 fl)[k]? = some (cv ad (fvA h a k f)) := by rw [fvs_at, hf, Nat.zero_add]; rfl
              have hlink := fT_ok own _ (lk_mem hlk)
              have hsame : ∀ x, s.fieldFound? ((Tf ci) k).1 ((Tf ci) k).2.1 ((Tf ci) k).2.2.1 = some x → s.fieldFound? (ow ci) ((Tf ci) k).2.1 ((Tf ci) k).2.2.1 = some x := fun x h9 => by rw [c5 k hk] at h9; exact h9
              cases nst with
              | false => exact va_get hx hb hts c2 hown hKK hP a (ws_obj ad cI h hsh) c1 k hk (hts _ hlink) hsame hv hd (hK _ _ _ _ hs H locs ls hP hS hl)
              | true => exact va_getN hx hb hts c2 hown hKK hP a (ws_obj ad cI h hsh) c1 k hk (va_Nw.use rfl (hXT.1 _ hlink)) hsame hv hd (hK _ _ _ _ hs H locs ls hP hS hl)
            · exact hs.elim
        · exact hs.elim
      · cases hc : (Nat.beq own 11 && Nat.beq a 88) with
        | false => rw [hc, cond_false] at hs; exact hs.elim
        | true =>
          rw [hc, cond_true] at hs
          simp only [Bool.and_eq_true] at hc
          have h1 := Nat.eq_of_beq_eq_true hc.1
          have h2 := Nat.eq_of_beq_eq_true hc.2
          subst h1
          subst h2
          have hEs := hXT.2.2.2.1.1 0 (by decide)
          cases hi : Nat.beq i 9 with
          | true =>
            rw [hi, cond_true] at hs
            have h3 := Nat.eq_of_beq_eq_true hi
            subst h3
            exact vk_getf hx hb hEs.2.2.1 hS hown (hts (.fieldLink "java/lang/String" 9 "java/lang/String" "value" "[B") (gw4 221 rfl rfl)) (fun _ h9 => h9) hd (hK _ _ _ _ hs H locs ls hP hS hl)
          | false =>
            rw [hi, cond_false] at hs
            cases hi2 : Nat.beq i 15 with
            | true =>
              rw [hi2, cond_true] at hs
              have h3 := Nat.eq_of_beq_eq_true hi2
              subst h3
              exact vk_getf hx hb hEs.2.1 hS hown (hts (.fieldLink "java/lang/String" 15 "java/lang/String" "coder" "B") (gw4 220 rfl rfl)) (fun _ h9 => h9) hd (hK _ _ _ _ hs H locs ls hP hS hl)
            | false => rw [hi2, cond_false] at hs; exact hs.elim
    · exact hs.elim
  | getstatic i =>
    have hl1 := le1 rfl
    subst hl1
    simp only [stp] at hs
    cases hc : (Nat.beq own 11 && Nat.beq i 38) with
    | false => rw [hc, cond_false] at hs; exact hs.elim
    | true =>
      rw [hc, cond_true] at hs
      simp only [Bool.and_eq_true] at hc
      have h1 := Nat.eq_of_beq_eq_true hc.1
      have h2 := Nat.eq_of_beq_eq_true hc.2
      subst h1
      subst h2
      exact va_gets hx hb hXT.2.2.2.2 hS hown (hts (.fieldLink "java/lang/String" 38 "java/lang/String" "COMPACT_STRINGS" "Z") (gw2 22 rfl rfl)) (fun _ h9 => h9) hd (hK _ _ _ _ hs H locs ls hP hS hl)
  | putfield i =>
    have hl1 := le1 rfl
    subst hl1
    simp only [stp] at hs
    split at hs
    · rename_i x a rest
      split at hs
      · rename_i ci k nst hlk
        split at hs
        · rename_i ci' fl hsh
          cases hc : Nat.beq ci ci' with
          | false => rw [hc, cond_false] at hs; exact hs.elim
          | true =>
            rw [hc, cond_true] at hs
            have hcc := Nat.eq_of_beq_eq_true hc
            subst hcc
            split at hs
            · rename_i hf
              obtain ⟨hci, hfl⟩ := sh_ok hsh
              obtain ⟨c1, c2, c3, c4, c5⟩ := cls_ok hci
              have hf0 := hf
              rw [nth_eq] at hf
              have hk : k < NF ci := by rw [← hfl]; exact (List.getElem?_eq_some_iff.mp hf).1
              have hlink := fT_ok own _ (lk_mem hlk)
              have hsame : ∀ x, s.fieldFound? ((Tf ci) k).1 ((Tf ci) k).2.1 ((Tf ci) k).2.2.1 = some x → s.fieldFound? (ow ci) ((Tf ci) k).2.1 ((Tf ci) k).2.2.1 = some x := fun x h9 => by rw [c5 k hk] at h9; exact h9
              cases hfin : ((Tf ci) k).2.2.2 with
              | true => rw [hfin, cond_true] at hs; exact hs.elim
              | false =>
                rw [hfin, cond_false] at hs
                obtain ⟨hn1, hn2, hgo⟩ : narrow (tf ci k) (.int x) = .int x ∧ fits (tf ci k) (.int x) = true ∧ K (pc + 3) lv rest (up2 h.1 a k x, h.2) := by
                  unfold fits' at hs
                  split at hs
                  · rename_i ht
                    rw [ht]
                    exact ⟨rfl, rfl, hs⟩
                  · rename_i ht
                    rw [ht]
                    obtain ⟨hv | hv, hs⟩ := hs
                    · subst hv; exact ⟨rfl, rfl, hs⟩
                    · subst hv; exact ⟨rfl, rfl, hs⟩
                  · exact hs.elim
                have kk : ∀ (H1 : Heap) (locs1 : List Loc), va_P D cls ((wsO ad cI h).set a (ad a, .inr (ci, (fvs ad h a 0 fl).set k (.int x)))) H1 → va_D (AA ad) ((wsO ad cI h).set a (ad a, .inr (ci, (fvs ad h a 0 fl).set k (.int x)))) → va_S (AA ad) s.heap H1 locs1 → W p l e R s m args below meth c H1 locs1 cells slots Q (F0 m (pc + 3) ls (rest.map (cv ad))) := fun H1 locs1 q1 q2 q3 => hK _ _ _ _ hgo H1 locs1 ls (by rw [ws_putI ad cI h hsh hf0 x] at q1; exact q1) q3 hl
                have hlen2 : k < (fvs ad h a 0 fl).length := by rw [fvs_len, hfl]; exact hk
                cases nst with
                | false => exact va_put hx hb hts c2 (tf ci) c3 c4 hown hKK hP hD hS a (ws_obj ad cI h hsh) c1 k hk (hts _ hlink) hsame hfin (c3 k hk) hn1 hn2 hlen2 hd kk
                | true => exact va_putN hx hb hts c2 (tf ci) c3 c4 hown hKK hP hD hS a (ws_obj ad cI h hsh) c1 k hk (va_Nw.use rfl (hXT.1 _ hlink)) hsame hfin (c3 k hk) hn1 hn2 hlen2 hd kk
            · exact hs.elim
        · exact hs.elim
      · exact hs.elim
    · rename_i x a rest
      split at hs
      · rename_i ci k nst hlk
        cases hc : (Nat.beq ci 7 && Nat.beq k 34 && Nat.beq a 73) with
        | false => rw [hc, cond_false] at hs; exact hs.elim
        | true =>
          rw [hc, cond_true] at hs
          simp only [Bool.and_eq_true] at hc
          have h1 := Nat.eq_of_beq_eq_true hc.1.1
          have h2 := Nat.eq_of_beq_eq_true hc.1.2
          have h3 := Nat.eq_of_beq_eq_true hc.2
          subst h1
          subst h2
          subst h3
          obtain ⟨fl, hsh⟩ : ∃ fl, nth shL 73 = some (.inl (7, fl)) := ⟨_, rfl⟩
          obtain ⟨hci, hfl⟩ := sh_ok hsh
          obtain ⟨c1, c2, c3, c4, c5⟩ := cls_ok hci
          have hk : 34 < NF 7 := by decide
          have hlink := fT_ok own _ (lk_mem hlk)
          have hsame : ∀ x, s.fieldFound? ((Tf 7) 34).1 ((Tf 7) 34).2.1 ((Tf 7) 34).2.2.1 = some x → s.fieldFound? (ow 7) ((Tf 7) 34).2.1 ((Tf 7) 34).2.2.1 = some x := fun x h9 => by rw [c5 34 hk] at h9; exact h9
          have kk : ∀ (H1 : Heap) (locs1 : List Loc), va_P D cls ((wsO ad cI h).set 73 (ad 73, .inr (7, (fvs ad h 73 0 fl).set 34 (.long x)))) H1 → va_D (AA ad) ((wsO ad cI h).set 73 (ad 73, .inr (7, (fvs ad h 73 0 fl).set 34 (.long x)))) → va_S (AA ad) s.heap H1 locs1 → W p l e R s m args below meth c H1 locs1 cells slots Q (F0 m (pc + 3) ls (rest.map (cv ad))) := fun H1 locs1 q1 q2 q3 => hK _ _ _ _ hs H1 locs1 ls (by rw [ws_putL ad cI h hsh x] at q1; exact q1) q3 hl
          have hlen2 : 34 < (fvs ad h 73 0 fl).length := by rw [fvs_len, hfl]; exact hk
          cases nst with
          | false => exact va_put hx hb hts c2 (tf 7) c3 c4 hown hKK hP hD hS 73 (ws_obj ad cI h hsh) c1 34 hk (hts _ hlink) hsame rfl (c3 34 hk) rfl rfl hlen2 hd kk
          | true => exact va_putN hx hb hts c2 (tf 7) c3 c4 hown hKK hP hD hS 73 (ws_obj ad cI h hsh) c1 34 hk (va_Nw.use rfl (hXT.1 _ hlink)) hsame rfl (c3 34 hk) rfl rfl hlen2 hd kk
      · exact hs.elim
    · exact hs.elim
  | iaload =>
    have hl1 := le1 rfl
    subst hl1
    simp only [stp] at hs
    split at hs
    · rename_i j a rest
      split at hs
      · rename_i n hsh
        exact va_iald hx hb hKK hP a 0 (ws_arr ad cI h hsh) rfl hs.1 hd (hK _ _ _ _ hs.2 H locs ls hP hS hl)
      · exact hs.elim
    · exact hs.elim
  | iastore =>
    have hl1 := le1 rfl
    subst hl1
    simp only [stp] at hs
    split at hs
    · rename_i x j a rest
      split at hs
      · rename_i n hsh
        exact va_iast hx hb hKK hP hD hS a 0 (ws_arr ad cI h hsh) rfl hs.1 hd (fun H1 locs1 q1 q2 q3 => hK _ _ _ _ hs.2 H1 locs1 ls (by rw [ws_putA ad cI h hsh] at q1; exact q1) q3 hl)
      · exact hs.elim
    · exact hs.elim
  | baload =>
    have hl1 := le1 rfl
    subst hl1
    simp only [stp] at hs
    split at hs
    · rename_i j a rest
      cases hc : Nat.beq a 89 with
      | false => rw [hc, cond_false] at hs; exact hs.elim
      | true =>
        rw [hc, cond_true] at hs
        have h1 := Nat.eq_of_beq_eq_true hc
        subst h1
        have hEs := hXT.2.2.2.1.1 0 (by decide)
        exact va_tb hx hb hEs.2.2.2 hS hs.1 rfl hd (hK _ _ _ _ hs.2 H locs ls hP hS hl)
    · exact hs.elim
  | arraylength =>
    have hl1 := le1 rfl
    subst hl1
    simp only [stp] at hs
    split at hs
    · rename_i a rest
      split at hs
      · rename_i n hsh
        exact va_alen hx hb hKK hP a 0 (ws_arr ad cI h hsh) (ty := .int) rfl rfl hd (hK _ _ _ _ hs H locs ls hP hS hl)
      · exact hs.elim
      · cases hc : Nat.beq a 89 with
        | false => rw [hc, cond_false] at hs; exact hs.elim
        | true =>
          rw [hc, cond_true] at hs
          have h1 := Nat.eq_of_beq_eq_true hc
          subst h1
          have hEs := hXT.2.2.2.1.1 0 (by decide)
          exact va_tlen hx hb hEs.2.2.2 hS rfl hd (hK _ _ _ _ hs H locs ls hP hS hl)
    · exact hs.elim
  | invokevirtual i =>
    have hl1 := le1 rfl
    subst hl1
    simp only [stp] at hs
    split at hs
    · rename_i kd md n ci hlk
      obtain ⟨⟨hM1, hM2, hM3, hM4, hM5⟩, hkind⟩ := mT_ok own _ (lk_mem hlk)
      dsimp only at hM1 hM2 hM3 hM4 hM5 hkind
      split at hs
      · rename_i as a rest hpop
        obtain ⟨bs, has, hst, hbl⟩ := popN_ok n [] st hpop
        cases hcat : Nat.ble (catS rest) 8 with
        | false => rw [hcat, cond_false] at hs; exact hs.elim
        | true =>
          rw [hcat, cond_true] at hs
          split at hs
          · obtain ⟨hL1, hL2, hL3, rr, hr1, hr2⟩ := hkind
            split at hs
            · rename_i ci' fl hsh
              cases hc : Nat.beq ci ci' with
              | false => rw [hc, cond_false] at hs; exact hs.elim
              | true =>
                rw [hc, cond_true] at hs
                have hcc := Nat.eq_of_beq_eq_true hc
                subst hcc
                obtain ⟨post, ⟨k0, hk0, hct⟩, hgo⟩ := hs
                have hrR : (rmO k0).frames + 1 ≤ R.frames ∧ 8 + (md.2.2.1 + 11) + (rmO k0).locals ≤ R.locals := by
                  show k0 + 1 ≤ R.frames ∧ 8 + (md.2.2.1 + 11) + 40 * k0 ≤ R.locals
                  have := hM5
                  omega
                have hW2 : 2 * (F0 m pc ls (List.map (cv ad) st)).monitorRoom + ((rest.map (cv ad)).map fun v => v.category).sum ≤ 8 := lv_room (by rw [cv_cats, catS_eq]; exact Nat.le_of_ble_eq_true hcat)
                have hcwl : ∀ w ∈ (Cond.code md.1 md.2.1 md.2.2.1 md.2.2.2 :: GW), w ∈ GW := fun w hw => (List.mem_cons.mp hw).elim (fun h9 => h9 ▸ hM1) id
                have hrun := va_runV (g := F0 m pc ls (st.map (cv ad))) (As := as.map (cv ad)) (rest := rest.map (cv ad)) (b := ad a) (C := md.1.cls) (l := l) (e := e) (below := below) (meth := meth) (R := R) (H := H) (locs := locs) (cells := cells) (slots := slots) ⟨hx, hb, hml, hown, hts⟩ (hct l D ad cI hinj) (cwV n hts (good_all (fun w hw => by
                      rcases List.mem_append.mp hw with h9 | h9
                      · simp only [List.mem_cons, List.mem_nil_iff, or_false] at h9
                        rcases h9 with rfl | rfl | rfl | rfl
                        · exact hL1
                        · exact hL2
                        · exact hL3
                        · exact hM2
                      · exact hcwl w h9)) rfl rfl rfl ⟨rfl, hM3.1, hM3.2, hM4⟩ hrR) ⟨pre_blind _ h, (hr2 ▸ va_recv hKK hP hr1 (ws_obj ad cI h hsh)), fun U hU hW => ⟨rfl, pre_at hP hS hKK hXT U hU hW⟩⟩ rfl (by rw [List.length_map, has, List.append_nil, List.length_reverse, hbl]) hl.1 (by
                        show st.map (cv ad) = _
                        rw [hst, has, List.append_nil, List.map_append, List.map_reverse, List.reverse_reverse]
                        rfl) hW2 hd ⟨by omega, by omega⟩
                exact call_go hrun hS (fun r h' H1 locs1 q0 q1 q2 => by
                  rw [ret_map]
                  exact hK _ _ _ _ (hgo r h' q0) H1 locs1 ls q1 q2 hl)
            · exact hs.elim
          · obtain ⟨hL1, hL2, hL3, hcs⟩ := hkind
            cases hc : Nat.beq a 88 with
            | false => rw [hc, cond_false] at hs; exact hs.elim
            | true =>
              rw [hc, cond_true] at hs
              have hcc := Nat.eq_of_beq_eq_true hc
              subst hcc
              obtain ⟨post, ⟨k0, hk0, hct⟩, hgo⟩ := hs
              have hrR : (rmO k0).frames + 1 ≤ R.frames ∧ 8 + (md.2.2.1 + 11) + (rmO k0).locals ≤ R.locals := by
                show k0 + 1 ≤ R.frames ∧ 8 + (md.2.2.1 + 11) + 40 * k0 ≤ R.locals
                have := hM5
                omega
              have hW2 : 2 * (F0 m pc ls (List.map (cv ad) st)).monitorRoom + ((rest.map (cv ad)).map fun v => v.category).sum ≤ 8 := lv_room (by rw [cv_cats, catS_eq]; exact Nat.le_of_ble_eq_true hcat)
              have hcwl : ∀ w ∈ (Cond.code md.1 md.2.1 md.2.2.1 md.2.2.2 :: GW), w ∈ GW := fun w hw => (List.mem_cons.mp hw).elim (fun h9 => h9 ▸ hM1) id
              have hrun := va_runV (g := F0 m pc ls (st.map (cv ad))) (As := as.map (cv ad)) (rest := rest.map (cv ad)) (b := ad 88) (C := md.1.cls) (l := l) (e := e) (below := below) (meth := meth) (R := R) (H := H) (locs := locs) (cells := cells) (slots := slots) ⟨hx, hb, hml, hown, hts⟩ (hct l D ad cI hinj) (cwV n hts (good_all (fun w hw => by
                    rcases List.mem_append.mp hw with h9 | h9
                    · simp only [List.mem_cons, List.mem_nil_iff, or_false] at h9
                      rcases h9 with rfl | rfl | rfl | rfl
                      · exact hL1
                      · exact hL2
                      · exact hL3
                      · exact hM2
                    · exact hcwl w h9)) rfl rfl rfl ⟨rfl, hM3.1, hM3.2, hM4⟩ hrR) ⟨pre_blind _ h, (by rw [hcs]; exact vk_recv (i := 0) hXT.2.2.2.1 (by decide) hS), fun U hU hW => ⟨rfl, pre_at hP hS hKK hXT U hU hW⟩⟩ rfl (by rw [List.length_map, has, List.append_nil, List.length_reverse, hbl]) hl.1 (by
                      show st.map (cv ad) = _
                      rw [hst, has, List.append_nil, List.map_append, List.map_reverse, List.reverse_reverse]
                      rfl) hW2 hd ⟨by omega, by omega⟩
              exact call_go hrun hS (fun r h' H1 locs1 q0 q1 q2 => by
                rw [ret_map]
                exact hK _ _ _ _ (hgo r h' q0) H1 locs1 ls q1 q2 hl)
          · exact hs.elim
      · exact hs.elim
    · exact hs.elim
  | invokestatic i =>
    have hl1 := le1 rfl
    subst hl1
    simp only [stp] at hs
    split at hs
    · rename_i kd md n ci hlk
      obtain ⟨⟨hM1, hM2, hM3, hM4, hM5⟩, hkind⟩ := mT_ok own _ (lk_mem hlk)
      dsimp only at hM1 hM2 hM3 hM4 hM5 hkind
      split at hs
      · obtain ⟨hL1, hL2, hL3, hL4⟩ := hkind
        split at hs
        · rename_i y x rest
          cases hc : (Nat.ble (catS rest) 8 && Nat.ble 1 d) with
          | false => rw [hc, cond_false] at hs; exact hs.elim
          | true =>
            rw [hc, cond_true] at hs
            simp only [Bool.and_eq_true] at hc
            have h1 := Nat.le_of_ble_eq_true hc.1
            have h2 := Nat.le_of_ble_eq_true hc.2
            exact va_mmax hx hb (hml.trans hl.1.symm) hown (hts _ hL1) (hts _ hL2) (hts _ hL3) (hts _ hL4) (by omega) (by rw [cv_cats, catS_eq]; omega) hroom.1 hroom.2 hd (hK _ _ _ _ hs H locs ls hP hS hl)
        · exact hs.elim
      · obtain ⟨hL1, hL2, hL3, hL4⟩ := hkind
        split at hs
        · rename_i y x rest
          cases hc : (Nat.ble (catS rest) 8 && Nat.ble 1 d) with
          | false => rw [hc, cond_false] at hs; exact hs.elim
          | true =>
            rw [hc, cond_true] at hs
            simp only [Bool.and_eq_true] at hc
            have h1 := Nat.le_of_ble_eq_true hc.1
            have h2 := Nat.le_of_ble_eq_true hc.2
            exact va_mmin hx hb (hml.trans hl.1.symm) hown (hts _ hL1) (hts _ hL2) (hts _ hL3) (hts _ hL4) (by omega) (by rw [cv_cats, catS_eq]; omega) hroom.1 hroom.2 hd (hK _ _ _ _ hs H locs ls hP hS hl)
        · exact hs.elim
      · obtain ⟨hL1, hL2, hL3, hL4⟩ := hkind
        split at hs
        · rename_i x rest
          cases hc : (Nat.ble (catS rest) 8 && Nat.ble 1 d) with
          | false => rw [hc, cond_false] at hs; exact hs.elim
          | true =>
            rw [hc, cond_true] at hs
            simp only [Bool.and_eq_true] at hc
            have h1 := Nat.le_of_ble_eq_true hc.1
            have h2 := Nat.le_of_ble_eq_true hc.2
            exact va_mabs hx hb (hml.trans hl.1.symm) hown (hts _ hL1) (hts _ hL2) (hts _ hL3) (hts _ hL4) (by omega) (by rw [cv_cats, catS_eq]; omega) hroom.1 hroom.2 hd (hK _ _ _ _ hs H locs ls hP hS hl)
        · exact hs.elim
      · split at hs
        · rename_i as rest hpop
          obtain ⟨bs, has, hst, hbl⟩ := popN_ok n [] st hpop
          cases hcat : Nat.ble (catS rest) 8 with
          | false => rw [hcat, cond_false] at hs; exact hs.elim
          | true =>
            rw [hcat, cond_true] at hs
            obtain ⟨hL1, hL2⟩ := hkind
            obtain ⟨post, ⟨k0, hk0, hct⟩, hgo⟩ := hs
            have hrR : (rmO k0).frames + 1 ≤ R.frames ∧ 8 + (md.2.2.1 + 11) + (rmO k0).locals ≤ R.locals := by
              show k0 + 1 ≤ R.frames ∧ 8 + (md.2.2.1 + 11) + 40 * k0 ≤ R.locals
              have := hM5
              omega
            have hW2 : 2 * (F0 m pc ls (List.map (cv ad) st)).monitorRoom + ((rest.map (cv ad)).map fun v => v.category).sum ≤ 8 := lv_room (by rw [cv_cats, catS_eq]; exact Nat.le_of_ble_eq_true hcat)
            have hcwl : ∀ w ∈ (Cond.code md.1 md.2.1 md.2.2.1 md.2.2.2 :: GW), w ∈ GW := fun w hw => (List.mem_cons.mp hw).elim (fun h9 => h9 ▸ hM1) id
            have hrun := va_runS (g := F0 m pc ls (st.map (cv ad))) (As := as.map (cv ad)) (rest := rest.map (cv ad)) (l := l) (e := e) (below := below) (meth := meth) (R := R) (H := H) (locs := locs) (cells := cells) (slots := slots) ⟨hx, hb, hml, hown, hts⟩ (hct l D ad cI hinj) (va_cwS n hts (good_all (fun w hw => by
                  rcases List.mem_append.mp hw with h9 | h9
                  · simp only [List.mem_cons, List.mem_nil_iff, or_false] at h9
                    rcases h9 with rfl | rfl | rfl
                    · exact hL1
                    · exact hL2
                    · exact hM2
                  · exact hcwl w h9)) rfl rfl rfl ⟨hM3.1, hM3.2, hM4⟩ hrR) ⟨pre_blind _ h, fun U hU hW => ⟨rfl, pre_at hP hS hKK hXT U hU hW⟩⟩ rfl (by rw [List.length_map, has, List.append_nil, List.length_reverse, hbl]) hl.1 (by
                    show st.map (cv ad) = _
                    rw [hst, has, List.append_nil, List.map_append, List.map_reverse, List.reverse_reverse]) hW2 hd ⟨by omega, by omega⟩
            exact call_go hrun hS (fun r h' H1 locs1 q0 q1 q2 => by
              rw [ret_map]
              exact hK _ _ _ _ (hgo r h' q0) H1 locs1 ls q1 q2 hl)
        · exact hs.elim
      · split at hs
        · rename_i as rest hpop
          obtain ⟨bs, has, hst, hbl⟩ := popN_ok n [] st hpop
          cases hcat : Nat.ble (catS rest) 8 with
          | false => rw [hcat, cond_false] at hs; exact hs.elim
          | true =>
            rw [hcat, cond_true] at hs
            obtain ⟨hL1, hL2⟩ := hkind
            obtain ⟨post, ⟨k0, hk0, hct⟩, hgo⟩ := hs
            have hrR : (rmO k0).frames + 1 ≤ R.frames ∧ 8 + (md.2.2.1 + 11) + (rmO k0).locals ≤ R.locals := by
              show k0 + 1 ≤ R.frames ∧ 8 + (md.2.2.1 + 11) + 40 * k0 ≤ R.locals
              have := hM5
              omega
            have hW2 : 2 * (F0 m pc ls (List.map (cv ad) st)).monitorRoom + ((rest.map (cv ad)).map fun v => v.category).sum ≤ 8 := lv_room (by rw [cv_cats, catS_eq]; exact Nat.le_of_ble_eq_true hcat)
            have hcwl : ∀ w ∈ (Cond.code md.1 md.2.1 md.2.2.1 md.2.2.2 :: GW), w ∈ GW := fun w hw => (List.mem_cons.mp hw).elim (fun h9 => h9 ▸ hM1) id
            have hrun := va_runSN (g := F0 m pc ls (st.map (cv ad))) (As := as.map (cv ad)) (rest := rest.map (cv ad)) (l := l) (e := e) (below := below) (meth := meth) (R := R) (H := H) (locs := locs) (cells := cells) (slots := slots) ⟨hx, hb, hml, hown, hts⟩ (hct l D ad cI hinj) ⟨va_cnB n hts (good_all hcwl) rfl rfl rfl (hXT.1 _ hL1) (hts _ hM2) ⟨hM3.1, hM3.2, hM4⟩ hrR, hts _ hL2, trivial⟩ ⟨pre_blind _ h, fun U hU hW => ⟨rfl, pre_at hP hS hKK hXT U hU hW⟩⟩ rfl (by rw [List.length_map, has, List.append_nil, List.length_reverse, hbl]) hl.1 (by
                    show st.map (cv ad) = _
                    rw [hst, has, List.append_nil, List.map_append, List.map_reverse, List.reverse_reverse]) hW2 hd ⟨by omega, by omega⟩
            exact call_go hrun hS (fun r h' H1 locs1 q0 q1 q2 => by
              rw [ret_map]
              exact hK _ _ _ _ (hgo r h' q0) H1 locs1 ls q1 q2 hl)
        · exact hs.elim
      · exact hs.elim
    · exact hs.elim
  | ireturn =>
    have hl1 := le1 rfl
    subst hl1
    simp only [stp] at hs
    split at hs
    · rename_i rt post
      obtain ⟨hr, hQ⟩ := hE
      subst hQ
      split at hs
      · rename_i v
        split at hs
        · exact W.iret (v := v) hx hb hr (fun t ht hW => ⟨_, h, hs, rfl, by rw [ht]; exact hP, hS.F ht⟩) hS.2.2 hd
        · obtain ⟨hv, hs⟩ := hs
          exact W.zret (v := v) hx hb hr (by rcases hv with rfl | rfl <;> rfl) (fun t ht hW => ⟨_, h, hs, rfl, by rw [ht]; exact hP, hS.F ht⟩) hS.2.2 hd
        · obtain ⟨hv, hs⟩ := hs
          exact W.zret (v := v) hx hb hr (by subst hv; rfl) (fun t ht hW => ⟨_, h, hs, rfl, by rw [ht]; exact hP, hS.F ht⟩) hS.2.2 hd
        · exact hs.elim
      · exact hs.elim
    · exact hs.elim
  | lreturn =>
    have hl1 := le1 rfl
    subst hl1
    simp only [stp] at hs
    split at hs
    · rename_i rt post
      obtain ⟨hr, hQ⟩ := hE
      subst hQ
      split at hs
      · rename_i v
        split at hs
        · exact W.lret (v := v) hx hb hr (fun t ht hW => ⟨_, h, hs, rfl, by rw [ht]; exact hP, hS.F ht⟩) hS.2.2 hd
        · exact hs.elim
      · exact hs.elim
    · exact hs.elim
  | return_ =>
    have hl1 := le1 rfl
    subst hl1
    simp only [stp] at hs
    split at hs
    · rename_i rt post
      obtain ⟨hr, hQ⟩ := hE
      subst hQ
      split at hs
      · split at hs
        · exact W.vret hx hb hr (fun t ht hW => ⟨_, h, hs, rfl, by rw [ht]; exact hP, hS.F ht⟩) hS.2.2 hd
        · exact hs.elim
      · exact hs.elim
    · exact hs.elim
  | _ => exact hs.elim
