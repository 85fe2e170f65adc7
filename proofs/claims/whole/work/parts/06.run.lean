/-! ===== runs, and a method's contract out of a run from its entry ===== -/
def seek : List En → Nat → List En
  | [], _ => []
  | (a, i) :: t, pc => bif Nat.beq a pc then (a, i) :: t else seek t pc
theorem seek_sub : ∀ (l : List En) (pc : Nat), ∀ q ∈ seek l pc, q ∈ l
  | [], _, q, h => h
  | (a, i) :: t, pc, q, h => by
    unfold seek at h
    cases hb : Nat.beq a pc with
    | true => rw [hb, cond_true] at h; exact h
    | false => rw [hb, cond_false] at h; exact List.mem_cons_of_mem _ (seek_sub t pc q h)
def nxt (tb t : List En) (pc : Nat) : List En := match t with
  | (a, i) :: t' => bif Nat.beq a pc then (a, i) :: t' else seek tb pc
  | [] => seek tb pc
theorem nxt_sub {tb t : List En} (ht : ∀ q ∈ t, q ∈ tb) (pc : Nat) : ∀ q ∈ nxt tb t pc, q ∈ tb := by
  intro q hq
  unfold nxt at hq
  split at hq
  · rename_i a i t'
    cases hb : Nat.beq a pc with
    | true => rw [hb, cond_true] at hq; exact ht q hq
    | false => rw [hb, cond_false] at hq; exact seek_sub tb pc q hq
  · exact seek_sub tb pc q hq
def inS (k : Nat) : List Nat → Bool
  | [] => false
  | a :: t => bif Nat.beq a k then true else inS k t
def run (E : RT) (own d nL : Nat) (tb : List En) (stops : List Nat) (K : KT) : Nat → List En → Nat → List (Option Value) → List Value → Hp → Prop
  | 0, _, _, _, _, _ => False
  | n + 1, cur, pc, lv, st, h => match cur with
    | (a, ins, len) :: t => bif Nat.beq a pc && (Nat.beq len (lenO ins) || isSw ins) then stp E own d nL ins a lv st h (fun pc' lv' st' h' => bif inS pc' stops then K pc' lv' st' h' else run E own d nL tb stops K n (nxt tb t pc') pc' lv' st' h') else False
    | [] => False
theorem run_ok {E : RT} {own d nL : Nat} {cc : ByteArray} {X : MC} {tb : List En} {stops : List Nat} {K : KT} (C : CX E own d cc nL X) (ht : ∀ q ∈ tb, decode cc q.1 = .ok (q.2.1, q.2.2)) (hK : ∀ pc lv st h, K pc lv st h → V X pc lv st h) : ∀ (n : Nat) (cur : List En) (pc : Nat) (lv : List (Option Value)) (st : List Value) (h : Hp), (∀ q ∈ cur, q ∈ tb) → run E own d nL tb stops K n cur pc lv st h → V X pc lv st h := by
  intro n
  induction n with
  | zero => intro cur pc lv st h _ hr; exact hr.elim
  | succ n ih =>
    intro cur pc lv st h hc hr
    unfold run at hr
    split at hr
    · rename_i a ins len t
      cases hb : (Nat.beq a pc && (Nat.beq len (lenO ins) || isSw ins)) with
      | false => rw [hb, cond_false] at hr; exact hr.elim
      | true =>
        rw [hb, cond_true] at hr
        simp only [Bool.and_eq_true] at hb
        have h1 := Nat.eq_of_beq_eq_true hb.1
        subst h1
        have hd : decode cc a = .ok (ins, len) := ht (a, ins, len) (hc (a, ins, len) List.mem_cons_self)
        refine stp_ok (ins := ins) (len := len) (pc := a) (lv := lv) (st := st) (h := h) C hd hb.2 hr (fun pc' lv' st' h' hk => ?_)
        cases hs : inS pc' stops with
        | true => rw [hs, cond_true] at hk; exact hK _ _ _ _ hk
        | false =>
          rw [hs, cond_false] at hk
          exact ih _ _ _ _ _ (nxt_sub (fun q hq => hc q (List.mem_cons_of_mem _ hq)) pc') hk
    · exact hr.elim
/-- go on from here to the stops, and to the ends -/
theorem V_go {E : RT} {own d nL : Nat} {cc : ByteArray} {X : MC} {tb : List En} {pc : Nat} {lv : List (Option Value)} {st : List Value} {h : Hp} (C : CX E own d cc nL X) (ht : ∀ q ∈ tb, decode cc q.1 = .ok (q.2.1, q.2.2)) (stops : List Nat) (n : Nat) (hr : run E own d nL tb stops (V X) n (seek tb pc) pc lv st h) : V X pc lv st h :=
  run_ok C ht (fun _ _ _ _ h => h) n _ pc lv st h (seek_sub tb pc) hr
def argS : List Value → List (Option Value)
  | [] => []
  | v :: t => bif isW v then some v :: none :: argS t else some v :: argS t
def padN : Nat → List (Option Value) → List (Option Value)
  | 0, l => l
  | n + 1, [] => none :: padN n []
  | n + 1, a :: t => a :: padN n t
theorem argS_asc (ad : Nat → Nat) : ∀ (as : List Value) (k : Nat), asc ad k (argS as) = lv_args k (as.map (cv ad))
  | [], k => rfl
  | v :: t, k => by
    cases hw : isW v with
    | true =>
      have hc : (cv ad v).category = 2 := by rw [cv_cat]; exact (isW_cat v).mpr hw
      simp only [argS, hw, cond_true, List.map_cons, lv_args, hc, if_true, asc]
      rw [argS_asc ad t (k + 1 + 1)]
    | false =>
      have hc : ¬ (cv ad v).category = 2 := by rw [cv_cat]; intro h; rw [(isW_cat v).mp h] at hw; cases hw
      simp only [argS, hw, cond_false, List.map_cons, lv_args, hc, if_false, asc]
      rw [argS_asc ad t (k + 1)]
theorem padN_asc (ad : Nat → Nat) : ∀ (n : Nat) (l : List (Option Value)) (k : Nat), asc ad k (padN n l) = asc ad k l
  | 0, l, k => rfl
  | n + 1, [], k => by
    show asc ad (k + 1) (padN n []) = []
    rw [padN_asc ad n [] (k + 1)]
    rfl
  | n + 1, none :: t, k => by
    show asc ad (k + 1) (padN n t) = asc ad (k + 1) t
    exact padN_asc ad n t (k + 1)
  | n + 1, some v :: t, k => by
    show (k, cv ad v) :: asc ad (k + 1) (padN n t) = (k, cv ad v) :: asc ad (k + 1) t
    rw [padN_asc ad n t (k + 1)]
theorem lgsl_len (ad : Nat → Nat) : ∀ as : List Value, (lg_sl (as.map (cv ad))).length = catS as
  | [] => rfl
  | v :: t => by
    have ih := lgsl_len ad t
    unfold lg_sl at ih ⊢
    simp only [List.map_cons, List.flatMap_cons, List.length_append, ih, catS]
    cases hw : isW v with
    | true =>
      have hc : (cv ad v).category = 2 := by rw [cv_cat]; exact (isW_cat v).mpr hw
      simp [hc]
    | false =>
      have hc : ¬ (cv ad v).category = 2 := by rw [cv_cat]; intro h; rw [(isW_cat v).mp h] at hw; cases hw
      simp [hc]
/-- a contract out of a walk from the entry -/
theorem Ct_of (own : Nat) {k : Nat} {md : MD} {as : List Value} {h : Hp} {post : PT} (ho : md.1.cls = ow own) (hp : plainName md.1.cls = true) (hn : Nat.ble (catS as) md.2.2.1 = true)
    (body : ∀ X : MC, CX (some (md.2.2.2, post)) own k md.2.1 md.2.2.1 X → V X 0 (padN md.2.2.1 (argS as)) [] h) : Ct k md as h post := by
  intro l D ad cI hinj
  refine Met.ofW (cc := md.2.1) (maxL := md.2.2.1) (ret := md.2.2.2) hp rfl ?_
  intro p e s m args below meth c s₁ B hml hv
  obtain ⟨rfl, hP, hK, hX⟩ := hv
  have hts := atoms_spec (ws := .code md.1 md.2.1 md.2.2.1 md.2.2.2 :: GW) B.pre
  have hown : s.vm.findClass (ow own) = some m.cls := by rw [← ho]; exact findClass_of_methodNamed B.named
  have hl := lv_entry (as.map (cv ad)) (n := md.2.2.1) (by rw [lgsl_len]; exact Nat.le_of_ble_eq_true hn)
  rw [lg_entry_eq]
  have h1 := body (p, l, e, (headSpec (.code md.1 md.2.1 md.2.2.1 md.2.2.2 :: GW) (rmO k)).room, s, m, (as.map (cv ad)).toArray, below, meth, c, D, ad, cI, md.2.2.1, 0, 0, MQ below (QC D ad cI post) (as.map (cv ad)).toArray s 0 0 (AA ad))
    ⟨rfl, B.exec, B.bytes, hml, hown, fun w hw => hts w (List.mem_cons_of_mem _ hw), hK, hinj, hX, ⟨Nat.zero_le _, Nat.zero_le _⟩, ⟨Nat.le_refl _, Nat.le_refl _⟩, B.notSynchronized, B.returns, rfl⟩
  exact h1 s.heap [] _ hP va_S.rf (by rw [padN_asc, argS_asc]; exact hl)
/-- a weaker end -/
theorem Ct.mono {k : Nat} {md : MD} {as : List Value} {h : Hp} {post post' : PT} (hc : Ct k md as h post) (hp : ∀ r h', post r h' → post' r h') : Ct k md as h post' := by
  intro l D ad cI hinj p e ha hcas hclk s m args below hf happ hP hT
  obtain ⟨t, o, h1, h2, h3, ⟨r, h', g1, g2⟩, h4⟩ := hc l D ad cI hinj p e ha hcas hclk s m args below hf happ hP hT
  exact ⟨t, o, h1, h2, h3, ⟨r, h', hp r h' g1, g2⟩, h4⟩
