/-! ===== the abstract machine: cells by number, references are cell numbers ===== -/
def nth {α : Type} : List α → Nat → Option α
  | [], _ => none
  | a :: _, 0 => some a
  | _ :: t, n + 1 => nth t n
theorem nth_eq {α : Type} : ∀ (l : List α) (k : Nat), nth l k = l[k]?
  | [], _ => by simp [nth]
  | a :: t, 0 => by simp [nth]
  | a :: t, n + 1 => by simp [nth, nth_eq t n]
def stN {α : Type} : List α → Nat → α → List α
  | [], _, _ => []
  | _ :: t, 0, x => x :: t
  | a :: t, n + 1, x => a :: stN t n x
theorem nth_stN {α : Type} : ∀ (l : List α) (k j : Nat) (x : α), nth (stN l k x) j = if j = k then (nth l j).map (fun _ => x) else nth l j
  | [], k, j, x => by simp [nth, stN]
  | a :: t, 0, 0, x => by simp [nth, stN]
  | a :: t, 0, j + 1, x => by simp [nth, stN]
  | a :: t, k + 1, 0, x => by simp [nth, stN]
  | a :: t, k + 1, j + 1, x => by simp [nth, stN, nth_stN t k j x]
def cv (ad : Nat → Nat) (v : Value) : Value := match v with
  | .ref i => .ref (ad i)
  | w => w
theorem cv_cat (ad : Nat → Nat) (v : Value) : (cv ad v).category = v.category := by cases v <;> rfl
theorem cv_cats (ad : Nat → Nat) (l : List Value) : ((l.map (cv ad)).map fun v => v.category) = l.map fun v => v.category := by
  rw [List.map_map]
  exact List.map_congr_left (fun v _ => cv_cat ad v)
/-- the numbers of the heap: cell, slot; and the one long -/
abbrev Hp : Type := (Nat → Nat → Int32) × Int64
def up2 (S : Nat → Nat → Int32) (i j : Nat) (x : Int32) : Nat → Nat → Int32 := fun a b => if a = i ∧ b = j then x else S a b
theorem up2_s (S : Nat → Nat → Int32) (i j : Nat) (x : Int32) : up2 S i j x i j = x := by simp [up2]
theorem up2_a (S : Nat → Nat → Int32) (i j : Nat) (x : Int32) {a b : Nat} (h : a ≠ i) : up2 S i j x a b = S a b := by simp [up2, h]
theorem up2_b (S : Nat → Nat → Int32) (i j : Nat) (x : Int32) {a b : Nat} (h : b ≠ j) : up2 S i j x a b = S a b := by simp [up2, h]
def fvA (h : Hp) (i j : Nat) (d : Option (Option Nat)) : Value := match d with
  | some (some t) => .ref t
  | some none => .int (h.1 i j)
  | none => .long h.2
def fvs (ad : Nat → Nat) (h : Hp) (i : Nat) : Nat → List (Option (Option Nat)) → List Value
  | _, [] => []
  | j, d :: t => cv ad (fvA h i j d) :: fvs ad h i (j + 1) t
theorem fvs_at (ad : Nat → Nat) (h : Hp) (i : Nat) : ∀ (fl : List (Option (Option Nat))) (j k : Nat), (fvs ad h i j fl)[k]? = (fl[k]?).map (fun d => cv ad (fvA h i (j + k) d))
  | [], j, k => by simp [fvs]
  | d :: t, j, 0 => by simp [fvs]
  | d :: t, j, k + 1 => by
    have := fvs_at ad h i t (j + 1) k
    simp only [fvs, List.getElem?_cons_succ, this]
    rw [show j + 1 + k = j + (k + 1) by omega]
theorem fvs_len (ad : Nat → Nat) (h : Hp) (i : Nat) : ∀ (fl : List (Option (Option Nat))) (j : Nat), (fvs ad h i j fl).length = fl.length
  | [], j => rfl
  | d :: t, j => by simp [fvs, fvs_len ad h i t (j + 1)]
theorem fvs_congr (ad : Nat → Nat) (h h' : Hp) (i : Nat) (h1 : ∀ b, h.1 i b = h'.1 i b) : ∀ (fl : List (Option (Option Nat))) (j : Nat), (h.2 = h'.2 ∨ none ∉ fl) → fvs ad h i j fl = fvs ad h' i j fl
  | [], j, _ => rfl
  | d :: t, j, h2 => by
    have e1 : fvA h i j d = fvA h' i j d := by
      match d with
      | some (some t) => rfl
      | some none => simp [fvA, h1]
      | none =>
        rcases h2 with h2 | h2
        · simp [fvA, h2]
        · exact absurd List.mem_cons_self h2
    have e2 := fvs_congr ad h h' i h1 t (j + 1) (h2.imp id (fun h3 h4 => h3 (List.mem_cons_of_mem _ h4)))
    simp only [fvs, e1, e2]
def ce (ad : Nat → Nat) (cI : ClassId) (h : Hp) (i : Nat) : va_E := match nth shL i with
  | some (.inl (ci, fl)) => .inr (ci, fvs ad h i 0 fl)
  | some (.inr n) => .inl (cI, n, .inl (h.1 i))
  | none => .inl (cI, 0, .inl (h.1 i))
def wsO (ad : Nat → Nat) (cI : ClassId) (h : Hp) : va_W := (List.range 88).map (fun i => (ad i, ce ad cI h i))
theorem shL_lt {i : Nat} {x : Sh} (hx : nth shL i = some x) : i < 88 := by
  rw [nth_eq] at hx
  exact (List.getElem?_eq_some_iff.mp hx).1
theorem ws_at (ad : Nat → Nat) (cI : ClassId) (h : Hp) {i : Nat} (hi : i < 88) : (wsO ad cI h)[i]? = some (ad i, ce ad cI h i) := by
  simp [wsO, List.getElem?_map, List.getElem?_range hi]
theorem ws_set (ad : Nat → Nat) (cI : ClassId) (h h' : Hp) {i : Nat} {e : va_E} (hi : i < 88) (he : e = ce ad cI h' i) (ho : ∀ a, a ≠ i → ce ad cI h a = ce ad cI h' a) : (wsO ad cI h).set i (ad i, e) = wsO ad cI h' := by
  apply List.ext_getElem?
  intro k
  rw [List.getElem?_set]
  by_cases hk : i = k
  · subst hk
    have hlen : i < (wsO ad cI h).length := by simp [wsO]; exact hi
    rw [if_pos rfl, if_pos hlen, ws_at ad cI h' hi, he]
  · rw [if_neg hk]
    simp only [wsO, List.getElem?_map]
    cases hr : (List.range 88)[k]? with
    | none => rfl
    | some a =>
      have ha : a = k := by
        have := (List.getElem?_eq_some_iff.mp hr)
        obtain ⟨h1, h2⟩ := this
        simp at h2
        exact h2.symm
      subst ha
      simp only [Option.map_some]
      rw [ho a (Ne.symm hk)]
theorem ce_congr (ad : Nat → Nat) (cI : ClassId) (h h' : Hp) (i : Nat) (h1 : ∀ b, h.1 i b = h'.1 i b) (h2 : h.2 = h'.2 ∨ ∀ ci fl, nth shL i = some (.inl (ci, fl)) → none ∉ fl) : ce ad cI h i = ce ad cI h' i := by
  have hf : h.1 i = h'.1 i := funext h1
  unfold ce
  cases hs : nth shL i with
  | none => simp only [hf]
  | some x =>
    match x with
    | .inr n => simp only [hf]
    | .inl (ci, fl) =>
      simp only
      rw [fvs_congr ad h h' i h1 fl 0 (h2.imp id (fun g => g ci fl hs))]
theorem no_long_l : (List.range 88).all (fun i => i == 73 || (match nth shL i with | some (.inl (_, fl)) => fl.all (fun d => d.isSome) | _ => true)) = true := by decide +kernel
theorem no_long {i : Nat} (hi : i ≠ 73) : ∀ ci fl, nth shL i = some (.inl (ci, fl)) → none ∉ fl := by
  intro ci fl hs hm
  have h1 := List.all_eq_true.mp no_long_l i (List.mem_range.mpr (shL_lt hs))
  rw [hs] at h1
  have h2 : (i == 73) = false := by simp [hi]
  rw [h2, Bool.false_or] at h1
  have h3 := List.all_eq_true.mp h1 none hm
  cases h3
/-- the cells' addresses -/
def AA (ad : Nat → Nat) : Nat → Prop := fun q => ∃ i, i < 88 ∧ ad i = q
def Inj (ad : Nat → Nat) : Prop := ∀ i j, i < 88 → j < 88 → ad i = ad j → i = j
theorem ws_D {ad : Nat → Nat} (hi : Inj ad) (cI : ClassId) (h : Hp) : va_D (AA ad) (wsO ad cI h) := by
  have key : ∀ (k : Nat) (q : Nat × va_E), (wsO ad cI h)[k]? = some q → k < 88 ∧ q.1 = ad k := by
    intro k q hq
    have hk : k < 88 := by
      have := (List.getElem?_eq_some_iff.mp hq).1
      simpa [wsO] using this
    rw [ws_at ad cI h hk] at hq
    cases hq
    exact ⟨hk, rfl⟩
  refine ⟨fun i j p q hp hq he => ?_, fun k q hq => ?_⟩
  · obtain ⟨h1, h2⟩ := key i p hp
    obtain ⟨h3, h4⟩ := key j q hq
    exact hi i j h1 h3 (by rw [← h2, ← h4, he])
  · obtain ⟨h1, h2⟩ := key k q hq
    exact ⟨k, h1, h2.symm⟩
/-! locals -/
def asc (ad : Nat → Nat) : Nat → List (Option Value) → List (Nat × Value)
  | _, [] => []
  | k, none :: t => asc ad (k + 1) t
  | k, some v :: t => (k, cv ad v) :: asc ad (k + 1) t
theorem mem_asc (ad : Nat → Nat) : ∀ (lv : List (Option Value)) (k : Nat) (q : Nat × Value), q ∈ asc ad k lv ↔ ∃ j v, nth lv j = some (some v) ∧ q = (k + j, cv ad v)
  | [], k, q => by simp [asc, nth]
  | none :: t, k, q => by
    rw [show asc ad k (none :: t) = asc ad (k + 1) t from rfl, mem_asc ad t (k + 1) q]
    constructor
    · rintro ⟨j, v, h1, h2⟩
      exact ⟨j + 1, v, h1, by rw [h2]; congr 1; omega⟩
    · rintro ⟨j, v, h1, h2⟩
      match j, h1, h2 with
      | 0, h1, h2 => simp [nth] at h1
      | j + 1, h1, h2 => exact ⟨j, v, h1, by rw [h2]; congr 1; omega⟩
  | some w :: t, k, q => by
    rw [show asc ad k (some w :: t) = (k, cv ad w) :: asc ad (k + 1) t from rfl, List.mem_cons, mem_asc ad t (k + 1) q]
    constructor
    · rintro (h | ⟨j, v, h1, h2⟩)
      · exact ⟨0, w, rfl, h⟩
      · exact ⟨j + 1, v, h1, by rw [h2]; congr 1; omega⟩
    · rintro ⟨j, v, h1, h2⟩
      match j, h1, h2 with
      | 0, h1, h2 =>
        simp only [nth, Option.some.injEq] at h1
        subst h1
        exact Or.inl h2
      | j + 1, h1, h2 => exact Or.inr ⟨j, v, h1, by rw [h2]; congr 1; omega⟩
theorem lv_mono {ls : Array Slot} {n : Nat} {l l' : List (Nat × Value)} (h : lv_has ls n l) (hs : ∀ q ∈ l', q ∈ l) : lv_has ls n l' := ⟨h.1, h.2.1, fun q hq => h.2.2 q (hs q hq)⟩
theorem lv_get {ad : Nat → Nat} {ls : Array Slot} {n k : Nat} {lv : List (Option Value)} {v : Value} (h : lv_has ls n (asc ad 0 lv)) (hk : nth lv k = some (some v)) : ls[k]? = some (.val (cv ad v)) :=
  h.2.2 (k, cv ad v) ((mem_asc ad lv 0 _).mpr ⟨k, v, hk, by rw [Nat.zero_add]⟩)
def isW (v : Value) : Bool := match v with
  | .long _ => true
  | .double _ => true
  | _ => false
theorem isW_cat (v : Value) : v.category = 2 ↔ isW v = true := by cases v <;> simp [isW, Value.category]
def clr (lv : List (Option Value)) (i : Nat) : List (Option Value) := match i with
  | 0 => lv
  | j + 1 => match nth lv j with
    | some (some w) => bif isW w then stN lv j none else lv
    | _ => lv
theorem nth_clr {lv : List (Option Value)} {i j : Nat} {w : Value} (h : nth (clr lv i) j = some (some w)) : nth lv j = some (some w) ∧ ¬ (j + 1 = i ∧ isW w = true) := by
  match i with
  | 0 => exact ⟨h, fun h => by omega⟩
  | i + 1 =>
    unfold clr at h
    cases h1 : nth lv i with
    | none =>
      simp only [h1] at h
      exact ⟨h, fun ⟨h2, h3⟩ => by
        have : j = i := by omega
        subst this
        rw [h1] at h
        cases h⟩
    | some x =>
      cases x with
      | none =>
        simp only [h1] at h
        exact ⟨h, fun ⟨h2, h3⟩ => by
          have : j = i := by omega
          subst this
          rw [h1] at h
          cases h⟩
      | some x =>
        simp only [h1] at h
        cases h2 : isW x with
        | true =>
          rw [h2, cond_true, nth_stN] at h
          by_cases hj : j = i
          · rw [if_pos hj, hj, h1] at h
            cases h
          · rw [if_neg hj] at h
            exact ⟨h, fun ⟨h3, _⟩ => hj (by omega)⟩
        | false =>
          rw [h2, cond_false] at h
          refine ⟨h, fun ⟨h3, h4⟩ => ?_⟩
          have : j = i := by omega
          subst this
          rw [h1] at h
          cases h
          rw [h2] at h4
          cases h4
def stI (lv : List (Option Value)) (i : Nat) (v : Value) : List (Option Value) := stN (clr lv i) i (some v)
def stL (lv : List (Option Value)) (i : Nat) (v : Value) : List (Option Value) := stN (stN (clr lv i) i (some v)) (i + 1) none
theorem stI_sub {ad : Nat → Nat} {lv : List (Option Value)} {i : Nat} {v : Value} : ∀ q ∈ asc ad 0 (stI lv i v), q ∈ (i, cv ad v) :: (asc ad 0 lv).filter (fun q => !(q.1 == i) && !(q.1 + 1 == i && q.2.category == 2)) := by
  intro q hq
  obtain ⟨j, w, h1, rfl⟩ := (mem_asc ad _ 0 q).mp hq
  rw [Nat.zero_add]
  unfold stI at h1
  rw [nth_stN] at h1
  by_cases hj : j = i
  · rw [if_pos hj] at h1
    cases h2 : nth (clr lv i) j with
    | none => rw [h2] at h1; cases h1
    | some x =>
      rw [h2] at h1
      simp only [Option.map_some, Option.some.injEq] at h1
      subst h1
      subst hj
      exact List.mem_cons_self
  · rw [if_neg hj] at h1
    obtain ⟨h2, h3⟩ := nth_clr h1
    refine List.mem_cons_of_mem _ (List.mem_filter.mpr ⟨(mem_asc ad lv 0 _).mpr ⟨j, w, h2, by rw [Nat.zero_add]⟩, ?_⟩)
    simp only [cv_cat]
    simp only [Bool.and_eq_true, Bool.not_eq_true', beq_eq_false_iff_ne, ne_eq, Bool.and_eq_false_iff]
    refine ⟨hj, ?_⟩
    by_cases h4 : j + 1 = i
    · right
      intro h5
      exact h3 ⟨h4, (isW_cat w).mp h5⟩
    · exact Or.inl h4
theorem stL_sub {ad : Nat → Nat} {lv : List (Option Value)} {i : Nat} {v : Value} : ∀ q ∈ asc ad 0 (stL lv i v), q ∈ (i, cv ad v) :: (asc ad 0 lv).filter (fun q => !(q.1 == i) && (!(q.1 == i + 1) && !(q.1 + 1 == i && q.2.category == 2))) := by
  intro q hq
  obtain ⟨j, w, h1, rfl⟩ := (mem_asc ad _ 0 q).mp hq
  rw [Nat.zero_add]
  unfold stL at h1
  rw [nth_stN] at h1
  by_cases hj1 : j = i + 1
  · rw [if_pos hj1] at h1
    cases h2 : nth (stN (clr lv i) i (some v)) j with
    | none => rw [h2] at h1; cases h1
    | some x => rw [h2] at h1; simp at h1
  rw [if_neg hj1, nth_stN] at h1
  by_cases hj : j = i
  · rw [if_pos hj] at h1
    cases h2 : nth (clr lv i) j with
    | none => rw [h2] at h1; cases h1
    | some x =>
      rw [h2] at h1
      simp only [Option.map_some, Option.some.injEq] at h1
      subst h1
      subst hj
      exact List.mem_cons_self
  · rw [if_neg hj] at h1
    obtain ⟨h2, h3⟩ := nth_clr h1
    refine List.mem_cons_of_mem _ (List.mem_filter.mpr ⟨(mem_asc ad lv 0 _).mpr ⟨j, w, h2, by rw [Nat.zero_add]⟩, ?_⟩)
    simp only [cv_cat]
    simp only [Bool.and_eq_true, Bool.not_eq_true', beq_eq_false_iff_ne, ne_eq, Bool.and_eq_false_iff]
    refine ⟨hj, hj1, ?_⟩
    by_cases h4 : j + 1 = i
    · right
      intro h5
      exact h3 ⟨h4, (isW_cat w).mp h5⟩
    · exact Or.inl h4
/-! numbers in the code -/
def kI (n : Int) : Int32 := match n with
  | .ofNat k => OfNat.ofNat k
  | .negSucc k => -(OfNat.ofNat (k + 1))
theorem kI_eq (n : Int) : Int32.ofInt n = kI n := by
  match n with
  | .ofNat k => rfl
  | .negSucc k =>
    show Int32.ofInt (Int.negSucc k) = -(Int32.ofNat (k + 1))
    rw [Int.negSucc_eq, Int32.ofInt_neg]
    rfl
def smI (b : Nat) (n : Int) : Option Int32 := match n with
  | .ofNat k => bif Nat.blt k b then some (OfNat.ofNat k) else none
  | .negSucc k => bif Nat.blt k b then some (-(OfNat.ofNat (k + 1))) else none
theorem sm8a : ∀ k : Fin 128, (Int8.ofInt (Int.ofNat k.val)).toInt32 = Int32.ofNat k.val := by decide +kernel
theorem sm8b : ∀ k : Fin 128, (Int8.ofInt (Int.negSucc k.val)).toInt32 = -(Int32.ofNat (k.val + 1)) := by decide +kernel
theorem sm16a : ∀ k : Fin 1024, (Int16.ofInt (Int.ofNat k.val)).toInt32 = Int32.ofNat k.val := by decide +kernel
theorem sm16b : ∀ k : Fin 1024, (Int16.ofInt (Int.negSucc k.val)).toInt32 = -(Int32.ofNat (k.val + 1)) := by decide +kernel
theorem smI8 {n : Int} {v : Int32} (h : smI 128 n = some v) : (Int8.ofInt n).toInt32 = v := by
  unfold smI at h
  match n, h with
  | .ofNat k, h =>
    simp only at h
    cases hb : Nat.blt k 128 with
    | false => rw [hb] at h; cases h
    | true =>
      rw [hb] at h
      cases h
      exact sm8a ⟨k, Nat.le_of_ble_eq_true hb⟩
  | .negSucc k, h =>
    simp only at h
    cases hb : Nat.blt k 128 with
    | false => rw [hb] at h; cases h
    | true =>
      rw [hb] at h
      cases h
      exact sm8b ⟨k, Nat.le_of_ble_eq_true hb⟩
theorem smI16 {n : Int} {v : Int32} (h : smI 1024 n = some v) : (Int16.ofInt n).toInt32 = v := by
  unfold smI at h
  match n, h with
  | .ofNat k, h =>
    simp only at h
    cases hb : Nat.blt k 1024 with
    | false => rw [hb] at h; cases h
    | true =>
      rw [hb] at h
      cases h
      exact sm16a ⟨k, Nat.le_of_ble_eq_true hb⟩
  | .negSucc k, h =>
    simp only at h
    cases hb : Nat.blt k 1024 with
    | false => rw [hb] at h; cases h
    | true =>
      rw [hb] at h
      cases h
      exact sm16b ⟨k, Nat.le_of_ble_eq_true hb⟩
