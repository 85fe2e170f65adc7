/-! ===== the machine's context, the judgement V, contracts, one step ===== -/
abbrev MC : Type := Program × Launch × Env × Room × State × MethodId × Array Value × List Frame × Method × Code × va_G × (Nat → Nat) × ClassId × Nat × Nat × Nat × (State → Prop)
def sBy : List Int32 := [108, 102, 115, 105, 111]
/-- what else holds all the time: the words of nest mates, the text, the static -/
def XT (ad : Nat → Nat) (U : State) : Prop := (∀ w ∈ NW, va_Nw w U) ∧ vk_R "GoingDark$Page" 43 "lfsio" (ad 88) U ∧ vk_R "GoingDark$Strait" 51 "lfsio" (ad 88) U ∧ vk_S 1 [5] [sBy] (fun _ => ad 88) (fun _ => ad 89) (AA ad) U U.heap ∧ va_Z "java/lang/String" "COMPACT_STRINGS" "Z" (.int 1) (AA ad) U U.heap
theorem XT.moved {ad : Nat → Nat} {s U : State} (hW : s.WarmedH U.vm) (hH : ∀ a : Nat, a < s.heap.size → ¬ AA ad a → U.heap[a]? = s.heap[a]?) (h : XT ad s) : XT ad U := by
  obtain ⟨h1, h2, h3, h4, h5⟩ := h
  refine ⟨fun w hw => ?_, vk_R.warm hW h2, vk_R.warm hW h3, vk_S.kept (vk_S.moved hW.alike h4) hH, va_Z.kept (va_Z.moved hW.alike h5) hH⟩
  have h6 := (List.mem_filter.mp hw).2
  have h7 := h1 w hw
  cases w with
  | fieldLinkNest a i b n d h => exact va_Nw.warmF hW h7
  | methodLinkNest a i x h => exact va_Nw.warmM hW h7
  | _ => cases h6
theorem XT.blind {ad : Nat → Nat} {U : State} (g : JFrame) (mk : MethodId) (a : Array Value) (h : XT ad U) : XT ad (U.calling g mk a) := by
  obtain ⟨h1, h2, h3, h4, h5⟩ := h
  refine ⟨fun w hw => ?_, vk_R.same rfl h2, vk_R.same rfl h3, vk_S.moved (u := U) (U := U.calling g mk a) (Vm.Alike.refl U.vm) h4, va_Z.moved (u := U) (U := U.calling g mk a) (Vm.Alike.refl U.vm) h5⟩
  have h6 := (List.mem_filter.mp hw).2
  have h7 := h1 w hw
  cases w with
  | fieldLinkNest a i b n d h => exact va_Nw.same rfl rfl h7
  | methodLinkNest a i x h => exact va_Nw.same rfl rfl h7
  | _ => cases h6
def V (X : MC) (pc : Nat) (lv : List (Option Value)) (st : List Value) (h : Hp) : Prop := match X with
  | (p, l, e, R, s, m, args, below, meth, c, D, ad, cI, nL, cells, slots, Q) => ∀ (H : Heap) (locs : List Loc) (ls : Array Slot), va_P D cls (wsO ad cI h) H → va_S (AA ad) s.heap H locs → lv_has ls nL (asc ad 0 lv) → W p l e R s m args below meth c H locs cells slots Q (F0 m pc ls (st.map (cv ad)))
/-- a contract's room, by its depth -/
def rmO (k : Nat) : Room := { frames := k, cells := 0, slots := 0, locals := 40 * k }
def PC (D : va_G) (ad : Nat → Nat) (cI : ClassId) (h : Hp) : State → Prop := fun U => va_P D cls (wsO ad cI h) U.heap ∧ va_K D cls [(cI, .int)] U ∧ XT ad U
abbrev PT : Type := Option Value → Hp → Prop
def QC (D : va_G) (ad : Nat → Nat) (cI : ClassId) (post : PT) : Array Value → State → Outcome → State → Prop := fun _ st oc t => ∃ (r : Option Value) (h : Hp), post r h ∧ oc = .returned (r.map (cv ad)) ∧ va_P D cls (wsO ad cI h) t.heap ∧ va_F (AA ad) st t
/-- THE CONTRACT: called with these, at this heap, the method ends, and its answer and the heap behind it are as post says -/
def Ct (k : Nat) (md : MD) (as : List Value) (h : Hp) (post : PT) : Prop := ∀ (l : Launch) (D : va_G) (ad : Nat → Nat) (cI : ClassId), Inj ad → Met l md.1 (.code md.1 md.2.1 md.2.2.1 md.2.2.2 :: GW) (rmO k) (va_Pc (as.map (cv ad)) (PC D ad cI h)) (QC D ad cI post) 0 0 (AA ad)
def Cl (d : Nat) (md : MD) (as : List Value) (h : Hp) (post : PT) : Prop := ∃ k, k < d ∧ Ct k md as h post
abbrev RT : Type := Option (Option FieldType × PT)
def CX (E : RT) (own d : Nat) (cc : ByteArray) (nL : Nat) (X : MC) : Prop := match X with
  | (p, l, e, R, s, m, args, below, meth, c, D, ad, cI, nL', cells, slots, Q) => nL' = nL ∧ p.tables.exec = Jvm.exec ∧ c.code = cc ∧ c.maxLocals = nL ∧ s.vm.findClass (ow own) = some m.cls ∧ (∀ w ∈ GW, w.before args s = true) ∧ va_K D cls [(cI, .int)] s ∧ Inj ad ∧ XT ad s ∧ (cells ≤ R.cells ∧ slots ≤ R.slots) ∧ (d ≤ R.frames ∧ 40 * d ≤ R.locals) ∧ meth.locks = false ∧ match E with
    | none => True
    | some (rt, post) => meth.sig.returnType = rt ∧ Q = MQ below (QC D ad cI post) args s cells slots (AA ad)
def gI (lv : List (Option Value)) (k : Nat) : Option Int32 := match nth lv k with
  | some (some (.int x)) => some x
  | _ => none
def gR (lv : List (Option Value)) (k : Nat) : Option Nat := match nth lv k with
  | some (some (.ref x)) => some x
  | _ => none
def gL (lv : List (Option Value)) (k : Nat) : Option Int64 := match nth lv k with
  | some (some (.long x)) => some x
  | _ => none
def jmp (pc : Nat) (off : Int) (K : Nat → Prop) : Prop := match (pc : Int) + off with
  | .ofNat t => K t
  | .negSucc _ => False
def bra (c : Jvm.ClassFile.Cond) (x y : Int32) (T F : Prop) : Prop := match c with
  | .eq => (x = y → T) ∧ (¬ x = y → F)
  | .ne => (¬ x = y → T) ∧ (x = y → F)
  | .lt => (x < y → T) ∧ (¬ x < y → F)
  | .ge => (y ≤ x → T) ∧ (¬ y ≤ x → F)
  | .gt => (y < x → T) ∧ (¬ y < x → F)
  | .le => (x ≤ y → T) ∧ (¬ x ≤ y → F)
def swt (x : Int32) : Int → List Int → (Int → Prop) → Prop
  | _, [], _ => True
  | lo, o :: t, J => (match smI 128 lo with
    | some v => x = v → J o
    | none => False) ∧ swt x (lo + 1) t J
def lks (x : Int32) (dflt : Int) : List (Int × Int) → (Int → Prop) → Prop
  | [], J => J dflt
  | (a, o) :: r, J => (x.toInt = a → J o) ∧ (¬ x.toInt = a → lks x dflt r J)
def popN : Nat → List Value → List Value → Option (List Value × List Value)
  | 0, acc, st => some (acc, st)
  | n + 1, acc, v :: st => popN n (v :: acc) st
  | _ + 1, _, [] => none
def catS : List Value → Nat
  | [] => 0
  | v :: t => (bif isW v then 2 else 1) + catS t
def lenO (ins : Instr) : Nat := match ins with
  | .bipush _ => 2
  | .iload _ => 2
  | .aload _ => 2
  | .lload _ => 2
  | .istore _ => 2
  | .astore _ => 2
  | .lstore _ => 2
  | .ldc _ => 2
  | .sipush _ => 3
  | .iinc _ _ => 3
  | .goto _ => 3
  | .ifCond _ _ => 3
  | .if_icmp _ _ => 3
  | .getfield _ => 3
  | .putfield _ => 3
  | .getstatic _ => 3
  | .invokevirtual _ => 3
  | .invokestatic _ => 3
  | .ldc_w _ => 3
  | .ldc2_w _ => 3
  | _ => 1
abbrev KT : Type := Nat → List (Option Value) → List Value → Hp → Prop
def cal (d : Nat) (md : MD) (as rest : List Value) (pc : Nat) (lv : List (Option Value)) (h : Hp) (K : KT) : Prop := ∃ post : PT, Cl d md as h post ∧ ∀ (r : Option Value) (h' : Hp), post r h' → K (pc + 3) lv (r.toList ++ rest) h'
def fits' (ty : FieldType) (x : Int32) (P : Prop) : Prop := match ty with
  | .int => P
  | .boolean => (x = 0 ∨ x = 1) ∧ P
  | _ => False
/-- one instruction: what must hold so that the rest is K -/
def stp (E : RT) (own d nL : Nat) (ins : Instr) (pc : Nat) (lv : List (Option Value)) (st : List Value) (h : Hp) (K : KT) : Prop :=
  match ins with
  | .iconst n => match smI 128 n with
    | some v => K (pc + 1) lv (.int v :: st) h
    | none => False
  | .bipush n => match smI 128 n with
    | some v => K (pc + 2) lv (.int v :: st) h
    | none => False
  | .sipush n => match smI 1024 n with
    | some v => K (pc + 3) lv (.int v :: st) h
    | none => False
  | .lconst n => K (pc + 1) lv (.long (OfNat.ofNat n.val) :: st) h
  | .ldc i => match lk (kT own) i with
    | some v => K (pc + 2) lv (.int v :: st) h
    | none => bif (Nat.beq own 3 && Nat.beq i 43) || (Nat.beq own 5 && Nat.beq i 51) then K (pc + 2) lv (.ref 88 :: st) h else False
  | .ldc_w i => match lk (kT own) i with
    | some v => K (pc + 3) lv (.int v :: st) h
    | none => False
  | .ldc2_w i => match lk (lT own) i with
    | some v => K (pc + 3) lv (.long v :: st) h
    | none => False
  | .iload_n k => match gI lv k.val with
    | some x => K (pc + 1) lv (.int x :: st) h
    | none => False
  | .iload k => match gI lv k with
    | some x => K (pc + 2) lv (.int x :: st) h
    | none => False
  | .lload_n k => match gL lv k.val with
    | some x => K (pc + 1) lv (.long x :: st) h
    | none => False
  | .lload k => match gL lv k with
    | some x => K (pc + 2) lv (.long x :: st) h
    | none => False
  | .aload_n k => match gR lv k.val with
    | some x => K (pc + 1) lv (.ref x :: st) h
    | none => False
  | .aload k => match gR lv k with
    | some x => K (pc + 2) lv (.ref x :: st) h
    | none => False
  | .istore_n k => match st with
    | .int x :: rest => bif Nat.blt k.val nL then K (pc + 1) (stI lv k.val (.int x)) rest h else False
    | _ => False
  | .istore k => match st with
    | .int x :: rest => bif Nat.blt k nL then K (pc + 2) (stI lv k (.int x)) rest h else False
    | _ => False
  | .astore_n k => match st with
    | .ref x :: rest => bif Nat.blt k.val nL then K (pc + 1) (stI lv k.val (.ref x)) rest h else False
    | _ => False
  | .lstore_n k => match st with
    | .long x :: rest => bif Nat.blt (k.val + 1) nL then K (pc + 1) (stL lv k.val (.long x)) rest h else False
    | _ => False
  | .lstore k => match st with
    | .long x :: rest => bif Nat.blt (k + 1) nL then K (pc + 2) (stL lv k (.long x)) rest h else False
    | _ => False
  | .iinc k n => match gI lv k with
    | some x => bif Nat.blt k nL then (match smI 128 n with
      | some v => K (pc + 3) (stI lv k (.int (x + v))) st h
      | none => False) else False
    | none => False
  | .iadd => match st with
    | .int y :: .int x :: rest => K (pc + 1) lv (.int (x + y) :: rest) h
    | _ => False
  | .isub => match st with
    | .int y :: .int x :: rest => K (pc + 1) lv (.int (x - y) :: rest) h
    | _ => False
  | .imul => match st with
    | .int y :: .int x :: rest => K (pc + 1) lv (.int (x * y) :: rest) h
    | _ => False
  | .iand => match st with
    | .int y :: .int x :: rest => K (pc + 1) lv (.int (x &&& y) :: rest) h
    | _ => False
  | .ior => match st with
    | .int y :: .int x :: rest => K (pc + 1) lv (.int (x ||| y) :: rest) h
    | _ => False
  | .ixor => match st with
    | .int y :: .int x :: rest => K (pc + 1) lv (.int (x ^^^ y) :: rest) h
    | _ => False
  | .idiv => match st with
    | .int y :: .int x :: rest => (¬ y = 0) ∧ K (pc + 1) lv (.int (x / y) :: rest) h
    | _ => False
  | .irem => match st with
    | .int y :: .int x :: rest => (¬ y = 0) ∧ K (pc + 1) lv (.int (x - x / y * y) :: rest) h
    | _ => False
  | .ineg => match st with
    | .int x :: rest => K (pc + 1) lv (.int (-x) :: rest) h
    | _ => False
  | .ishl => match st with
    | .int y :: .int x :: rest => K (pc + 1) lv (.int (x <<< (y &&& 31)) :: rest) h
    | _ => False
  | .ishr => match st with
    | .int y :: .int x :: rest => K (pc + 1) lv (.int (x >>> (y &&& 31)) :: rest) h
    | _ => False
  | .iushr => match st with
    | .int y :: .int x :: rest => K (pc + 1) lv (.int (x.toUInt32 >>> (y.toUInt32 &&& Int32.toUInt32 31)).toInt32 :: rest) h
    | _ => False
  | .i2l => match st with
    | .int x :: rest => K (pc + 1) lv (.long x.toInt64 :: rest) h
    | _ => False
  | .l2i => match st with
    | .long x :: rest => K (pc + 1) lv (.int x.toInt32 :: rest) h
    | _ => False
  | .i2c => match st with
    | .int x :: rest => K (pc + 1) lv (.int (x.toUInt32 % 65536).toInt32 :: rest) h
    | _ => False
  | .i2b => match st with
    | .int x :: rest => K (pc + 1) lv (.int x.toInt8.toInt32 :: rest) h
    | _ => False
  | .ladd => match st with
    | .long y :: .long x :: rest => K (pc + 1) lv (.long (x + y) :: rest) h
    | _ => False
  | .lmul => match st with
    | .long y :: .long x :: rest => K (pc + 1) lv (.long (x * y) :: rest) h
    | _ => False
  | .land => match st with
    | .long y :: .long x :: rest => K (pc + 1) lv (.long (x &&& y) :: rest) h
    | _ => False
  | .lcmp => match st with
    | .long y :: .long x :: rest => K (pc + 1) lv (.int (lg_cmp x y) :: rest) h
    | _ => False
  | .dup => match st with
    | v :: rest => bif isW v then False else K (pc + 1) lv (v :: v :: rest) h
    | _ => False
  | .dup2 => match st with
    | v :: w :: rest => bif isW v then False else bif isW w then False else K (pc + 1) lv (v :: w :: v :: w :: rest) h
    | _ => False
  | .pop => match st with
    | v :: rest => bif isW v then False else K (pc + 1) lv rest h
    | _ => False
  | .goto off => jmp pc off (fun t => K t lv st h)
  | .ifCond c off => match st with
    | .int x :: rest => jmp pc off (fun t => bra c x 0 (K t lv rest h) (K (pc + 3) lv rest h))
    | _ => False
  | .if_icmp c off => match st with
    | .int y :: .int x :: rest => jmp pc off (fun t => bra c x y (K t lv rest h) (K (pc + 3) lv rest h))
    | _ => False
  | .tableswitch dflt lo hi offs => match st with
    | .int x :: rest => bif (hi - lo + 1 == (offs.toList.length : Int)) then ((x.toInt < lo ∨ hi < x.toInt) → jmp pc dflt (fun t => K t lv rest h)) ∧ swt x lo offs.toList (fun off => jmp pc off (fun t => K t lv rest h)) else False
    | _ => False
  | .lookupswitch dflt ps => match st with
    | .int x :: rest => bif ((ps.toList.zip (ps.toList.drop 1)).all (fun (a, next) => a.1 < next.1)) then lks x dflt ps.toList (fun off => jmp pc off (fun t => K t lv rest h)) else False
    | _ => False
  | .getfield i => match st with
    | .ref a :: rest => (match lk (fT own) i with
      | some (ci, k, _) => (match nth shL a with
        | some (.inl (ci', fl)) => bif Nat.beq ci ci' then (match nth fl k with
          | some f => K (pc + 3) lv (fvA h a k f :: rest) h
          | none => False) else False
        | _ => False)
      | none => bif Nat.beq own 11 && Nat.beq a 88 then (bif Nat.beq i 9 then K (pc + 3) lv (.ref 89 :: rest) h else bif Nat.beq i 15 then K (pc + 3) lv (.int 0 :: rest) h else False) else False)
    | _ => False
  | .getstatic i => bif Nat.beq own 11 && Nat.beq i 38 then K (pc + 3) lv (.int 1 :: st) h else False
  | .putfield i => match st with
    | .int x :: .ref a :: rest => (match lk (fT own) i with
      | some (ci, k, _) => (match nth shL a with
        | some (.inl (ci', fl)) => bif Nat.beq ci ci' then (match nth fl k with
          | some (some none) => bif ((Tf ci) k).2.2.2 then False else fits' (tf ci k) x (K (pc + 3) lv rest (up2 h.1 a k x, h.2))
          | _ => False) else False
        | _ => False)
      | none => False)
    | .long x :: .ref a :: rest => (match lk (fT own) i with
      | some (ci, k, _) => bif Nat.beq ci 7 && Nat.beq k 34 && Nat.beq a 73 then K (pc + 3) lv rest (h.1, x) else False
      | none => False)
    | _ => False
  | .iaload => match st with
    | .int j :: .ref a :: rest => (match nth shL a with
      | some (.inr n) => vp_in j n ∧ K (pc + 1) lv (.int (h.1 a j.toNatClampNeg) :: rest) h
      | _ => False)
    | _ => False
  | .iastore => match st with
    | .int x :: .int j :: .ref a :: rest => (match nth shL a with
      | some (.inr n) => vp_in j n ∧ K (pc + 1) lv rest (up2 h.1 a j.toNatClampNeg x, h.2)
      | _ => False)
    | _ => False
  | .baload => match st with
    | .int j :: .ref a :: rest => bif Nat.beq a 89 then vp_in j 5 ∧ K (pc + 1) lv (.int (sBy.getD j.toNatClampNeg 0) :: rest) h else False
    | _ => False
  | .arraylength => match st with
    | .ref a :: rest => (match nth shL a with
      | some (.inr n) => K (pc + 1) lv (.int (OfNat.ofNat n) :: rest) h
      | some (.inl _) => False
      | none => bif Nat.beq a 89 then K (pc + 1) lv (.int 5 :: rest) h else False)
    | _ => False
  | .invokevirtual i => match lk (mT own) i with
    | some (kd, md, n, ci) => (match popN n [] st with
      | some (as, .ref a :: rest) => bif Nat.ble (catS rest) 8 then (match kd with
        | 0 => (match nth shL a with
          | some (.inl (ci', _)) => bif Nat.beq ci ci' then cal d md (.ref a :: as) rest pc lv h K else False
          | _ => False)
        | 4 => bif Nat.beq a 88 then cal d md (.ref a :: as) rest pc lv h K else False
        | _ => False) else False
      | _ => False)
    | none => False
  | .invokestatic i => match lk (mT own) i with
    | some (kd, md, n, _) => (match kd with
      | 5 => (match st with
        | .int y :: .int x :: rest => bif Nat.ble (catS rest) 8 && Nat.ble 1 d then K (pc + 3) lv (.int (if x < y then y else x) :: rest) h else False
        | _ => False)
      | 6 => (match st with
        | .int y :: .int x :: rest => bif Nat.ble (catS rest) 8 && Nat.ble 1 d then K (pc + 3) lv (.int (if y < x then y else x) :: rest) h else False
        | _ => False)
      | 7 => (match st with
        | .int x :: rest => bif Nat.ble (catS rest) 8 && Nat.ble 1 d then K (pc + 3) lv (.int (if 0 ≤ x then x else 0 - x) :: rest) h else False
        | _ => False)
      | 1 => (match popN n [] st with
        | some (as, rest) => bif Nat.ble (catS rest) 8 then cal d md as rest pc lv h K else False
        | _ => False)
      | 3 => (match popN n [] st with
        | some (as, rest) => bif Nat.ble (catS rest) 8 then cal d md as rest pc lv h K else False
        | _ => False)
      | _ => False)
    | none => False
  | .ireturn => match E with
    | some (rt, post) => (match st with
      | [.int v] => (match rt with
        | some .int => post (some (.int v)) h
        | some .boolean => (v = 0 ∨ v = 1) ∧ post (some (.int v)) h
        | some .byte => v = 0 ∧ post (some (.int v)) h
        | _ => False)
      | _ => False)
    | none => False
  | .lreturn => match E with
    | some (rt, post) => (match st with
      | [.long v] => (match rt with
        | some .long => post (some (.long v)) h
        | _ => False)
      | _ => False)
    | none => False
  | .return_ => match E with
    | some (rt, post) => (match st with
      | [] => (match rt with
        | none => post none h
        | _ => False)
      | _ => False)
    | none => False
  | _ => False
