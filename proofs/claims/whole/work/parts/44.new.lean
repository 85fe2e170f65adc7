/-! ===== new objects: the constructors' contracts ===== -/
theorem nd_of : ∀ (l : List Nat), l.Nodup → va_nd l = true
  | [], _ => rfl
  | a :: t, h => by
    have h' := List.nodup_cons.mp h
    unfold va_nd
    rw [nd_of t h'.2, Bool.and_true]
    exact decide_eq_true h'.1
theorem rng_at {α : Type} (ws y : List α) : (List.range ws.length).map (fun i => (ws ++ y)[i]?) = ws.map some := by
  refine List.ext_getElem (by simp) (fun k h1 h2 => ?_)
  have hk : k < ws.length := by simpa using h2
  simp only [List.getElem_map, List.getElem_range]
  rw [List.getElem?_append_left hk, List.getElem?_eq_getElem hk]
theorem vaP_r {D : va_G} {a b : va_W} {H : Heap} (h : va_P D cls (a ++ b) H) : va_P D cls b H := fun k q hq => h (a.length + k) q (by
  rw [List.getElem?_append_right (Nat.le_add_right _ _), Nat.add_sub_cancel_left]
  exact hq)
theorem vaP_l {D : va_G} {a b : va_W} {H : Heap} (h : va_P D cls (a ++ b) H) : va_P D cls a H := fun k q hq => h k q (by
  rw [List.getElem?_append_left (List.getElem?_eq_some_iff.mp hq).1]
  exact hq)
theorem mk_D1 {A : Nat → Prop} {x : Nat × va_E} (h : A x.1) : va_D A [x] := by
  refine ⟨fun i j p q hp hq _ => ?_, fun k q hq => ?_⟩
  · have h1 : i < 1 := (List.getElem?_eq_some_iff.mp hp).1
    have h2 : j < 1 := (List.getElem?_eq_some_iff.mp hq).1
    omega
  · have h1 : k < 1 := (List.getElem?_eq_some_iff.mp hq).1
    rw [show k = 0 by omega] at hq
    cases hq
    exact h
theorem mk_join {A0 : Nat → Prop} {D : va_G} {ws w1 : va_W} {y : Nat × va_E} {H H1 : Heap} (hP : va_P D cls (ws ++ [y]) H) (hD : va_D A0 (ws ++ [y])) (hk : ∀ q : Nat, q < H.size → ¬ va_A [y] H.size q → H1[q]? = H[q]?) (hF : ∀ q, va_A [y] H.size q → A0 q) (hP1 : va_P D cls w1 H1) (hD1 : va_D (va_A [y] H.size) w1) : va_P D cls (ws ++ w1) H1 ∧ va_D A0 (ws ++ w1) :=
  va_join (wc := [y]) (wr := ws) hP hD [ws.length] (List.range ws.length) (by simp) (rng_at ws [y]) (nd_of _ List.nodup_range) (fun i hi hc => by
    have h1 := List.mem_range.mp hi
    have h2 := List.mem_singleton.mp hc
    omega) hk hF hP1 hD1
theorem nw_moved {s U : State} (hW : s.WarmedH U.vm) (h : ∀ w ∈ NW, va_Nw w s) : ∀ w ∈ NW, va_Nw w U := by
  intro w hw
  have h6 := (List.mem_filter.mp hw).2
  have h7 := h w hw
  cases w with
  | fieldLinkNest a i b n d h => exact va_Nw.warmF hW h7
  | methodLinkNest a i x h => exact va_Nw.warmM hW h7
  | _ => cases h6
theorem nw_blind {U : State} (g : JFrame) (mk : MethodId) (a : Array Value) (h : ∀ w ∈ NW, va_Nw w U) : ∀ w ∈ NW, va_Nw w (U.calling g mk a) := by
  intro w hw
  have h6 := (List.mem_filter.mp hw).2
  have h7 := h w hw
  cases w with
  | fieldLinkNest a i b n d h => exact va_Nw.same rfl rfl h7
  | methodLinkNest a i x h => exact va_Nw.same rfl rfl h7
  | _ => cases h6
/-- a constructor's start -/
def PcN (D : va_G) (cI : ClassId) (ci : Nat) (fs : List Value) (h0 sz : Nat) : State → Prop := fun U => U.heap.size = sz ∧ va_P D cls [(h0, .inr (ci, fs))] U.heap ∧ va_K D cls [(cI, .int)] U ∧ (∀ w ∈ NW, va_Nw w U)
theorem PcN.blind {D : va_G} {cI : ClassId} {ci : Nat} {fs : List Value} {h0 sz : Nat} {as : List Value} : FrameBlind (va_Pc as (PcN D cI ci fs h0 sz)) := fun a U g mk q => by
  obtain ⟨q0, q1, qP, qK, qN⟩ := q
  exact ⟨q0, q1, qP, va_K.moved (u := U) (U := U.calling g mk a) (Vm.Alike.refl U.vm) qK, nw_blind g mk a qN⟩
/-- a constructor's contract: called on a new object with the fields fs; behind it stand the object and what it made, at addresses f -/
def CtN (rm : Room) (md : MD) (as : List Value) (D : va_G) (cI : ClassId) (ci : Nat) (fs : List Value) (mc ms : Nat) (w1 : (Nat → Nat) → Nat → va_W) : Prop := ∀ (l : Launch) (h0 sz : Nat), Met l md.1 (.code md.1 md.2.1 md.2.2.1 none :: GW) rm (va_Pc (.ref h0 :: as) (PcN D cI ci fs h0 sz)) (va_Qv (fun _ : Nat → Nat => True) (fun f t => va_P D cls (w1 f h0) t.heap ∧ va_D (va_A [(h0, .inr (ci, fs))] sz) (w1 f h0)) (va_A [(h0, .inr (ci, fs))] sz)) mc ms (va_A [(h0, .inr (ci, fs))] sz)
/-- the walk that such a contract asks for -/
def BoN (own : Nat) (rm : Room) (md : MD) (as : List Value) (D : va_G) (cI : ClassId) (ci : Nat) (fs : List Value) (mc ms : Nat) (w1 : (Nat → Nat) → Nat → va_W) : Prop :=
  ∀ (p : Program) (l : Launch) (e : Env) (s : State) (m : MethodId) (args : Array Value) (below : List Frame) (meth : Method) (c : Code) (h0 : Nat) (A : Nat → Prop) (ls : Array Slot) (Q : State → Prop),
  p.tables.exec = Jvm.exec → c.code = md.2.1 → c.maxLocals = md.2.2.1 → s.vm.findClass (ow own) = some m.cls → meth.name = "<init>" → (∀ w ∈ GW, w.before args s = true) → (∀ w ∈ NW, va_Nw w s) → va_K D cls [(cI, .int)] s → va_P D cls [(h0, .inr (ci, fs))] s.heap → va_D A [(h0, .inr (ci, fs))] → (∀ q, s.heap.size ≤ q → A q) → lv_has ls md.2.2.1 (lv_args 0 (.ref h0 :: as)) →
  (∀ (pc : Nat) (H : Heap) (locs : List Loc) (ls : Array Slot) (f : Nat → Nat), decode md.2.1 pc = .ok (.return_, 1) → va_P D cls (w1 f h0) H → va_D A (w1 f h0) → va_S A s.heap H locs → W p l e rm s m args below meth c H locs mc ms Q (F0 m pc ls [])) →
  W p l e rm s m args below meth c s.heap [] 0 0 Q (F0 m 0 ls [])
theorem CtN_of (own : Nat) {rm : Room} {md : MD} {as : List Value} {D : va_G} {cI : ClassId} {ci : Nat} {fs : List Value} {mc ms : Nat} {w1 : (Nat → Nat) → Nat → va_W} (ho : md.1.cls = ow own) (hp : plainName md.1.cls = true) (hnm : md.1.name = "<init>") (hn : ∀ h0, (lg_sl (.ref h0 :: as)).length ≤ md.2.2.1) (body : BoN own rm md as D cI ci fs mc ms w1) : CtN rm md as D cI ci fs mc ms w1 := by
  intro l h0 sz
  refine Met.ofW (cc := md.2.1) (maxL := md.2.2.1) (ret := none) hp rfl ?_
  intro p e s m args below meth c s₁ B hml hv
  obtain ⟨rfl, hsz, hP, hK, hNW⟩ := hv
  have hts := atoms_spec (ws := .code md.1 md.2.1 md.2.2.1 none :: GW) B.pre
  have hown : s.vm.findClass (ow own) = some m.cls := by rw [← ho]; exact findClass_of_methodNamed B.named
  have hin : meth.name = "<init>" := by rw [← hnm]; exact (name_of_methodNamed B.named B.method).1
  have hx := B.exec
  have hb := B.bytes
  have hr := B.returns
  have hlocks := B.notSynchronized
  subst hsz
  have hl := lv_entry (.ref h0 :: as) (n := md.2.2.1) (hn h0)
  rw [lg_entry_eq]
  refine body p l e s m _ below meth c h0 (va_A [(h0, .inr (ci, fs))] s.heap.size) _ _ hx hb hml hown hin (fun w hw => hts w (List.mem_cons_of_mem _ hw)) hNW hK hP (mk_D1 (va_A.in (k := 0) rfl)) (fun q h => Or.inr h) hl ?_
  intro pc H locs ls f hd hP1 hD1 hS1
  exact W.vret hx hb hr (fun t ht hW => ⟨⟨f, rfl, trivial, by rw [ht]; exact hP1, hD1⟩, hS1.F ht⟩) hS1.2.2 hd
section MKC
variable {p : Program} {l : Launch} {e : Env} {R : Room} {s : State} {m : MethodId} {args : Array Value} {below : List Frame} {meth : Method} {c : Code} {H : Heap} {locs : List Loc} {cells slots : Nat} {Q : State → Prop}
variable {cc : ByteArray} {nL : Nat} {own : String} {A : Nat → Prop} {D : va_G} {cI : ClassId} {ws : va_W} {pc index n ci q mc ms : Nat} {fs rest : List Value} {ls : Array Slot} {md : MD} {rm : Room} {w1 : (Nat → Nat) → Nat → va_W}
/-- a new object's constructor is called -/
theorem mk_call (as : List Value) (hx : p.tables.exec = Jvm.exec) (hb : c.code = cc) (hml : c.maxLocals = nL) (hown : s.vm.findClass own = some m.cls) (hts : ∀ w ∈ GW, w.before args s = true) (hNW : ∀ w ∈ NW, va_Nw w s) (hK : va_K D cls [(cI, .int)] s)
    (hP : va_P D cls (ws ++ [(q, .inr (ci, fs))]) H) (hD : va_D A (ws ++ [(q, .inr (ci, fs))])) (hS : va_S A s.heap H locs) (hA : ∀ q, s.heap.size ≤ q → A q)
    (hct : CtN rm md as D cI ci fs mc ms w1) (hmd : Cond.code md.1 md.2.1 md.2.2.1 none ∈ GW ∧ Cond.initialized md.1.cls ∈ GW ∧ Cond.instanceMethod md.1 ∈ GW ∧ md.1.name = "<init>" ∧ md.1.cls ≠ "java/lang/invoke/MethodHandle" ∧ md.1.cls ≠ "java/lang/invoke/VarHandle" ∧ (parseMethodDescriptor md.1.desc).map (fun d => d.parameters.length) = some n) (hn : as.length = n)
    (hlink : Cond.methodLink own index md.1 ∈ GW) (hrc : rm.cells = mc) (hrs : rm.slots = ms) (hR : rm.frames + 1 ≤ R.frames ∧ 8 + (md.2.2.1 + 11) + rm.locals ≤ R.locals)
    (hsz : ls.size = nL) (hcat : (rest.map fun v => v.category).sum ≤ 8) (hf : cells + mc ≤ R.cells ∧ slots + ms ≤ R.slots) (hdg : decode cc pc = .ok (.invokespecial index, 3))
    (kk : ∀ (f : Nat → Nat) (H1 : Heap) (locs1 : List Loc), va_P D cls (ws ++ w1 f q) H1 → va_D A (ws ++ w1 f q) → va_S A s.heap H1 locs1 → W p l e R s m args below meth c H1 locs1 (cells + mc) (slots + ms) Q (F0 m (pc + 3) ls rest)) : W p l e R s m args below meth c H locs cells slots Q (F0 m pc ls (as.reverse ++ .ref q :: rest)) := by
  obtain ⟨m1, m2, m3, m4, m5⟩ := hmd
  have hPc : va_P D cls [(q, .inr (ci, fs))] H := vaP_r hP
  have hFc := va_free (wc := [(q, .inr (ci, fs))]) hD hS hA [ws.length] (by simp)
  refine va_callv (va_runI (As := as) (rest := rest) (b := q) ⟨hx, hb, hml, hown, hts⟩ (hct l q H.size) (cwI n hts (good_all (fun w hw => by
    rcases List.mem_cons.mp hw with h | h
    · rw [h]; exact m1
    · exact h)) rfl hrc hrs (hts _ m2) (hts _ hlink) (hts _ m3) m4 m5 hR) ⟨PcN.blind, fun U hU hW => ⟨rfl, by rw [hU], by rw [hU]; exact hPc, va_K.moved hW.alike hK, nw_moved hW hNW⟩⟩ rfl hn hsz rfl (by show 2 * 0 + _ ≤ 8; omega) hdg hf) hS (fun q _ h => hFc q h) hFc (fun u t H1 locs1 ht hvm hw hB hz1 hk1 hS1 => ?_)
  obtain ⟨hP1, hD1⟩ := hB
  rw [ht] at hP1
  obtain ⟨hP2, hD2⟩ := mk_join hP hD hk1 hFc hP1 hD1
  exact kk u H1 locs1 hP2 hD2 hS1
/-- the same, of a nest mate -/
theorem mk_callN (as : List Value) (hx : p.tables.exec = Jvm.exec) (hb : c.code = cc) (hml : c.maxLocals = nL) (hown : s.vm.findClass own = some m.cls) (hts : ∀ w ∈ GW, w.before args s = true) (hNW : ∀ w ∈ NW, va_Nw w s) (hK : va_K D cls [(cI, .int)] s)
    (hP : va_P D cls (ws ++ [(q, .inr (ci, fs))]) H) (hD : va_D A (ws ++ [(q, .inr (ci, fs))])) (hS : va_S A s.heap H locs) (hA : ∀ q, s.heap.size ≤ q → A q)
    (hct : CtN rm md as D cI ci fs mc ms w1) (hmd : Cond.code md.1 md.2.1 md.2.2.1 none ∈ GW ∧ Cond.initialized md.1.cls ∈ GW ∧ Cond.instanceMethod md.1 ∈ GW ∧ md.1.name = "<init>" ∧ md.1.cls ≠ "java/lang/invoke/MethodHandle" ∧ md.1.cls ≠ "java/lang/invoke/VarHandle" ∧ (parseMethodDescriptor md.1.desc).map (fun d => d.parameters.length) = some n) (hn : as.length = n)
    (hlink : Cond.methodLinkNest own index md.1 "GoingDark" ∈ NW) (hrc : rm.cells = mc) (hrs : rm.slots = ms) (hR : rm.frames + 1 ≤ R.frames ∧ 8 + (md.2.2.1 + 11) + rm.locals ≤ R.locals)
    (hsz : ls.size = nL) (hcat : (rest.map fun v => v.category).sum ≤ 8) (hf : cells + mc ≤ R.cells ∧ slots + ms ≤ R.slots) (hdg : decode cc pc = .ok (.invokespecial index, 3))
    (kk : ∀ (f : Nat → Nat) (H1 : Heap) (locs1 : List Loc), va_P D cls (ws ++ w1 f q) H1 → va_D A (ws ++ w1 f q) → va_S A s.heap H1 locs1 → W p l e R s m args below meth c H1 locs1 (cells + mc) (slots + ms) Q (F0 m (pc + 3) ls rest)) : W p l e R s m args below meth c H locs cells slots Q (F0 m pc ls (as.reverse ++ .ref q :: rest)) := by
  obtain ⟨m1, m2, m3, m4, m5⟩ := hmd
  have hPc : va_P D cls [(q, .inr (ci, fs))] H := vaP_r hP
  have hFc := va_free (wc := [(q, .inr (ci, fs))]) hD hS hA [ws.length] (by simp)
  refine va_callv (va_runIN (As := as) (rest := rest) (b := q) ⟨hx, hb, hml, hown, hts⟩ (hct l q H.size) ⟨va_cnB n hts (good_all (fun w hw => by
    rcases List.mem_cons.mp hw with h | h
    · rw [h]; exact m1
    · exact h)) rfl hrc hrs (hNW _ hlink) (hts _ m2) m5 hR, m4, hts _ m3⟩ ⟨PcN.blind, fun U hU hW => ⟨rfl, by rw [hU], by rw [hU]; exact hPc, va_K.moved hW.alike hK, nw_moved hW hNW⟩⟩ rfl hn hsz rfl (by show 2 * 0 + _ ≤ 8; omega) hdg hf) hS (fun q _ h => hFc q h) hFc (fun u t H1 locs1 ht hvm hw hB hz1 hk1 hS1 => ?_)
  obtain ⟨hP1, hD1⟩ := hB
  rw [ht] at hP1
  obtain ⟨hP2, hD2⟩ := mk_join hP hD hk1 hFc hP1 hD1
  exact kk u H1 locs1 hP2 hD2 hS1
end MKC
