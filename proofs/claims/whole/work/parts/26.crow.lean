/-! ===== the class: rows ===== -/
def rowL : List (Nat × Nat × Nat) := [(9, 41, 18), (10, 42, 5), (11, 43, 5), (12, 44, 10), (13, 45, 3), (14, 46, 3), (15, 47, 3), (16, 48, 5), (17, 49, 5), (18, 50, 5), (19, 51, 3), (20, 52, 3), (21, 53, 3), (22, 54, 5), (23, 55, 5), (24, 56, 5), (25, 57, 3), (26, 58, 3), (27, 59, 3), (28, 60, 5), (29, 61, 5), (30, 62, 5), (31, 63, 8), (32, 64, 8), (33, 65, 8), (34, 66, 8), (35, 67, 8), (36, 68, 8), (37, 69, 8), (38, 70, 8), (39, 71, 8), (40, 72, 8)]
theorem ct_Row_at {r a n k : Nat} {x : Int32} (hm : (r, a, n) ∈ rowL) (hx : x = nI k) (hk : k < n) (h : Hp) : Ct 0 md_Row_at [.ref r, .int x] h (ex (.int (h.1 a k)) h) := by
  subst hx
  simp only [rowL, List.mem_cons, Prod.mk.injEq, List.mem_nil_iff, or_false] at hm
  rcases hm with ⟨rfl, rfl, rfl⟩ | ⟨rfl, rfl, rfl⟩ | ⟨rfl, rfl, rfl⟩ | ⟨rfl, rfl, rfl⟩ | ⟨rfl, rfl, rfl⟩ | ⟨rfl, rfl, rfl⟩ | ⟨rfl, rfl, rfl⟩ | ⟨rfl, rfl, rfl⟩ | ⟨rfl, rfl, rfl⟩ | ⟨rfl, rfl, rfl⟩ | ⟨rfl, rfl, rfl⟩ | ⟨rfl, rfl, rfl⟩ | ⟨rfl, rfl, rfl⟩ | ⟨rfl, rfl, rfl⟩ | ⟨rfl, rfl, rfl⟩ | ⟨rfl, rfl, rfl⟩ | ⟨rfl, rfl, rfl⟩ | ⟨rfl, rfl, rfl⟩ | ⟨rfl, rfl, rfl⟩ | ⟨rfl, rfl, rfl⟩ | ⟨rfl, rfl, rfl⟩ | ⟨rfl, rfl, rfl⟩ | ⟨rfl, rfl, rfl⟩ | ⟨rfl, rfl, rfl⟩ | ⟨rfl, rfl, rfl⟩ | ⟨rfl, rfl, rfl⟩ | ⟨rfl, rfl, rfl⟩ | ⟨rfl, rfl, rfl⟩ | ⟨rfl, rfl, rfl⟩ | ⟨rfl, rfl, rfl⟩ | ⟨rfl, rfl, rfl⟩ | ⟨rfl, rfl, rfl⟩
  · refine Ct_of 4 rfl rfl rfl (fun X C => ?_)
    refine V_go C tk_Row_at [] 34 ?_
    refine And.intro (fun c1 => ?_) (fun c1 => ?_)
    · exact absurd c1 (nI_pos (by omega))
    · refine And.intro (fun c10 => ?_) (fun c10 => ?_)
      · exact absurd c10 (nI_ge (b := 18) hk (by decide))
      · refine And.intro (inn hk (by decide)) ?_
        exact ⟨by rw [nIc (by omega)], rfl⟩
  · refine Ct_of 4 rfl rfl rfl (fun X C => ?_)
    refine V_go C tk_Row_at [] 34 ?_
    refine And.intro (fun c1 => ?_) (fun c1 => ?_)
    · exact absurd c1 (nI_pos (by omega))
    · refine And.intro (fun c10 => ?_) (fun c10 => ?_)
      · exact absurd c10 (nI_ge (b := 5) hk (by decide))
      · refine And.intro (inn hk (by decide)) ?_
        exact ⟨by rw [nIc (by omega)], rfl⟩
  · refine Ct_of 4 rfl rfl rfl (fun X C => ?_)
    refine V_go C tk_Row_at [] 34 ?_
    refine And.intro (fun c1 => ?_) (fun c1 => ?_)
    · exact absurd c1 (nI_pos (by omega))
    · refine And.intro (fun c10 => ?_) (fun c10 => ?_)
      · exact absurd c10 (nI_ge (b := 5) hk (by decide))
      · refine And.intro (inn hk (by decide)) ?_
        exact ⟨by rw [nIc (by omega)], rfl⟩
  · refine Ct_of 4 rfl rfl rfl (fun X C => ?_)
    refine V_go C tk_Row_at [] 34 ?_
    refine And.intro (fun c1 => ?_) (fun c1 => ?_)
    · exact absurd c1 (nI_pos (by omega))
    · refine And.intro (fun c10 => ?_) (fun c10 => ?_)
      · exact absurd c10 (nI_ge (b := 10) hk (by decide))
      · refine And.intro (inn hk (by decide)) ?_
        exact ⟨by rw [nIc (by omega)], rfl⟩
  · refine Ct_of 4 rfl rfl rfl (fun X C => ?_)
    refine V_go C tk_Row_at [] 34 ?_
    refine And.intro (fun c1 => ?_) (fun c1 => ?_)
    · exact absurd c1 (nI_pos (by omega))
    · refine And.intro (fun c10 => ?_) (fun c10 => ?_)
      · exact absurd c10 (nI_ge (b := 3) hk (by decide))
      · refine And.intro (inn hk (by decide)) ?_
        exact ⟨by rw [nIc (by omega)], rfl⟩
  · refine Ct_of 4 rfl rfl rfl (fun X C => ?_)
    refine V_go C tk_Row_at [] 34 ?_
    refine And.intro (fun c1 => ?_) (fun c1 => ?_)
    · exact absurd c1 (nI_pos (by omega))
    · refine And.intro (fun c10 => ?_) (fun c10 => ?_)
      · exact absurd c10 (nI_ge (b := 3) hk (by decide))
      · refine And.intro (inn hk (by decide)) ?_
        exact ⟨by rw [nIc (by omega)], rfl⟩
  · refine Ct_of 4 rfl rfl rfl (fun X C => ?_)
    refine V_go C tk_Row_at [] 34 ?_
    refine And.intro (fun c1 => ?_) (fun c1 => ?_)
    · exact absurd c1 (nI_pos (by omega))
    · refine And.intro (fun c10 => ?_) (fun c10 => ?_)
      · exact absurd c10 (nI_ge (b := 3) hk (by decide))
      · refine And.intro (inn hk (by decide)) ?_
        exact ⟨by rw [nIc (by omega)], rfl⟩
  · refine Ct_of 4 rfl rfl rfl (fun X C => ?_)
    refine V_go C tk_Row_at [] 34 ?_
    refine And.intro (fun c1 => ?_) (fun c1 => ?_)
    · exact absurd c1 (nI_pos (by omega))
    · refine And.intro (fun c10 => ?_) (fun c10 => ?_)
      · exact absurd c10 (nI_ge (b := 5) hk (by decide))
      · refine And.intro (inn hk (by decide)) ?_
        exact ⟨by rw [nIc (by omega)], rfl⟩
  · refine Ct_of 4 rfl rfl rfl (fun X C => ?_)
    refine V_go C tk_Row_at [] 34 ?_
    refine And.intro (fun c1 => ?_) (fun c1 => ?_)
    · exact absurd c1 (nI_pos (by omega))
    · refine And.intro (fun c10 => ?_) (fun c10 => ?_)
      · exact absurd c10 (nI_ge (b := 5) hk (by decide))
      · refine And.intro (inn hk (by decide)) ?_
        exact ⟨by rw [nIc (by omega)], rfl⟩
  · refine Ct_of 4 rfl rfl rfl (fun X C => ?_)
    refine V_go C tk_Row_at [] 34 ?_
    refine And.intro (fun c1 => ?_) (fun c1 => ?_)
    · exact absurd c1 (nI_pos (by omega))
    · refine And.intro (fun c10 => ?_) (fun c10 => ?_)
      · exact absurd c10 (nI_ge (b := 5) hk (by decide))
      · refine And.intro (inn hk (by decide)) ?_
        exact ⟨by rw [nIc (by omega)], rfl⟩
  · refine Ct_of 4 rfl rfl rfl (fun X C => ?_)
    refine V_go C tk_Row_at [] 34 ?_
    refine And.intro (fun c1 => ?_) (fun c1 => ?_)
    · exact absurd c1 (nI_pos (by omega))
    · refine And.intro (fun c10 => ?_) (fun c10 => ?_)
      · exact absurd c10 (nI_ge (b := 3) hk (by decide))
      · refine And.intro (inn hk (by decide)) ?_
        exact ⟨by rw [nIc (by omega)], rfl⟩
  · refine Ct_of 4 rfl rfl rfl (fun X C => ?_)
    refine V_go C tk_Row_at [] 34 ?_
    refine And.intro (fun c1 => ?_) (fun c1 => ?_)
    · exact absurd c1 (nI_pos (by omega))
    · refine And.intro (fun c10 => ?_) (fun c10 => ?_)
      · exact absurd c10 (nI_ge (b := 3) hk (by decide))
      · refine And.intro (inn hk (by decide)) ?_
        exact ⟨by rw [nIc (by omega)], rfl⟩
  · refine Ct_of 4 rfl rfl rfl (fun X C => ?_)
    refine V_go C tk_Row_at [] 34 ?_
    refine And.intro (fun c1 => ?_) (fun c1 => ?_)
    · exact absurd c1 (nI_pos (by omega))
    · refine And.intro (fun c10 => ?_) (fun c10 => ?_)
      · exact absurd c10 (nI_ge (b := 3) hk (by decide))
      · refine And.intro (inn hk (by decide)) ?_
        exact ⟨by rw [nIc (by omega)], rfl⟩
  · refine Ct_of 4 rfl rfl rfl (fun X C => ?_)
    refine V_go C tk_Row_at [] 34 ?_
    refine And.intro (fun c1 => ?_) (fun c1 => ?_)
    · exact absurd c1 (nI_pos (by omega))
    · refine And.intro (fun c10 => ?_) (fun c10 => ?_)
      · exact absurd c10 (nI_ge (b := 5) hk (by decide))
      · refine And.intro (inn hk (by decide)) ?_
        exact ⟨by rw [nIc (by omega)], rfl⟩
  · refine Ct_of 4 rfl rfl rfl (fun X C => ?_)
    refine V_go C tk_Row_at [] 34 ?_
    refine And.intro (fun c1 => ?_) (fun c1 => ?_)
    · exact absurd c1 (nI_pos (by omega))
    · refine And.intro (fun c10 => ?_) (fun c10 => ?_)
      · exact absurd c10 (nI_ge (b := 5) hk (by decide))
      · refine And.intro (inn hk (by decide)) ?_
        exact ⟨by rw [nIc (by omega)], rfl⟩
  · refine Ct_of 4 rfl rfl rfl (fun X C => ?_)
    refine V_go C tk_Row_at [] 34 ?_
    refine And.intro (fun c1 => ?_) (fun c1 => ?_)
    · exact absurd c1 (nI_pos (by omega))
    · refine And.intro (fun c10 => ?_) (fun c10 => ?_)
      · exact absurd c10 (nI_ge (b := 5) hk (by decide))
      · refine And.intro (inn hk (by decide)) ?_
        exact ⟨by rw [nIc (by omega)], rfl⟩
  · refine Ct_of 4 rfl rfl rfl (fun X C => ?_)
    refine V_go C tk_Row_at [] 34 ?_
    refine And.intro (fun c1 => ?_) (fun c1 => ?_)
    · exact absurd c1 (nI_pos (by omega))
    · refine And.intro (fun c10 => ?_) (fun c10 => ?_)
      · exact absurd c10 (nI_ge (b := 3) hk (by decide))
      · refine And.intro (inn hk (by decide)) ?_
        exact ⟨by rw [nIc (by omega)], rfl⟩
  · refine Ct_of 4 rfl rfl rfl (fun X C => ?_)
    refine V_go C tk_Row_at [] 34 ?_
    refine And.intro (fun c1 => ?_) (fun c1 => ?_)
    · exact absurd c1 (nI_pos (by omega))
    · refine And.intro (fun c10 => ?_) (fun c10 => ?_)
      · exact absurd c10 (nI_ge (b := 3) hk (by decide))
      · refine And.intro (inn hk (by decide)) ?_
        exact ⟨by rw [nIc (by omega)], rfl⟩
  · refine Ct_of 4 rfl rfl rfl (fun X C => ?_)
    refine V_go C tk_Row_at [] 34 ?_
    refine And.intro (fun c1 => ?_) (fun c1 => ?_)
    · exact absurd c1 (nI_pos (by omega))
    · refine And.intro (fun c10 => ?_) (fun c10 => ?_)
      · exact absurd c10 (nI_ge (b := 3) hk (by decide))
      · refine And.intro (inn hk (by decide)) ?_
        exact ⟨by rw [nIc (by omega)], rfl⟩
  · refine Ct_of 4 rfl rfl rfl (fun X C => ?_)
    refine V_go C tk_Row_at [] 34 ?_
    refine And.intro (fun c1 => ?_) (fun c1 => ?_)
    · exact absurd c1 (nI_pos (by omega))
    · refine And.intro (fun c10 => ?_) (fun c10 => ?_)
      · exact absurd c10 (nI_ge (b := 5) hk (by decide))
      · refine And.intro (inn hk (by decide)) ?_
        exact ⟨by rw [nIc (by omega)], rfl⟩
  · refine Ct_of 4 rfl rfl rfl (fun X C => ?_)
    refine V_go C tk_Row_at [] 34 ?_
    refine And.intro (fun c1 => ?_) (fun c1 => ?_)
    · exact absurd c1 (nI_pos (by omega))
    · refine And.intro (fun c10 => ?_) (fun c10 => ?_)
      · exact absurd c10 (nI_ge (b := 5) hk (by decide))
      · refine And.intro (inn hk (by decide)) ?_
        exact ⟨by rw [nIc (by omega)], rfl⟩
  · refine Ct_of 4 rfl rfl rfl (fun X C => ?_)
    refine V_go C tk_Row_at [] 34 ?_
    refine And.intro (fun c1 => ?_) (fun c1 => ?_)
    · exact absurd c1 (nI_pos (by omega))
    · refine And.intro (fun c10 => ?_) (fun c10 => ?_)
      · exact absurd c10 (nI_ge (b := 5) hk (by decide))
      · refine And.intro (inn hk (by decide)) ?_
        exact ⟨by rw [nIc (by omega)], rfl⟩
  · refine Ct_of 4 rfl rfl rfl (fun X C => ?_)
    refine V_go C tk_Row_at [] 34 ?_
    refine And.intro (fun c1 => ?_) (fun c1 => ?_)
    · exact absurd c1 (nI_pos (by omega))
    · refine And.intro (fun c10 => ?_) (fun c10 => ?_)
      · exact absurd c10 (nI_ge (b := 8) hk (by decide))
      · refine And.intro (inn hk (by decide)) ?_
        exact ⟨by rw [nIc (by omega)], rfl⟩
  · refine Ct_of 4 rfl rfl rfl (fun X C => ?_)
    refine V_go C tk_Row_at [] 34 ?_
    refine And.intro (fun c1 => ?_) (fun c1 => ?_)
    · exact absurd c1 (nI_pos (by omega))
    · refine And.intro (fun c10 => ?_) (fun c10 => ?_)
      · exact absurd c10 (nI_ge (b := 8) hk (by decide))
      · refine And.intro (inn hk (by decide)) ?_
        exact ⟨by rw [nIc (by omega)], rfl⟩
  · refine Ct_of 4 rfl rfl rfl (fun X C => ?_)
    refine V_go C tk_Row_at [] 34 ?_
    refine And.intro (fun c1 => ?_) (fun c1 => ?_)
    · exact absurd c1 (nI_pos (by omega))
    · refine And.intro (fun c10 => ?_) (fun c10 => ?_)
      · exact absurd c10 (nI_ge (b := 8) hk (by decide))
      · refine And.intro (inn hk (by decide)) ?_
        exact ⟨by rw [nIc (by omega)], rfl⟩
  · refine Ct_of 4 rfl rfl rfl (fun X C => ?_)
    refine V_go C tk_Row_at [] 34 ?_
    refine And.intro (fun c1 => ?_) (fun c1 => ?_)
    · exact absurd c1 (nI_pos (by omega))
    · refine And.intro (fun c10 => ?_) (fun c10 => ?_)
      · exact absurd c10 (nI_ge (b := 8) hk (by decide))
      · refine And.intro (inn hk (by decide)) ?_
        exact ⟨by rw [nIc (by omega)], rfl⟩
  · refine Ct_of 4 rfl rfl rfl (fun X C => ?_)
    refine V_go C tk_Row_at [] 34 ?_
    refine And.intro (fun c1 => ?_) (fun c1 => ?_)
    · exact absurd c1 (nI_pos (by omega))
    · refine And.intro (fun c10 => ?_) (fun c10 => ?_)
      · exact absurd c10 (nI_ge (b := 8) hk (by decide))
      · refine And.intro (inn hk (by decide)) ?_
        exact ⟨by rw [nIc (by omega)], rfl⟩
  · refine Ct_of 4 rfl rfl rfl (fun X C => ?_)
    refine V_go C tk_Row_at [] 34 ?_
    refine And.intro (fun c1 => ?_) (fun c1 => ?_)
    · exact absurd c1 (nI_pos (by omega))
    · refine And.intro (fun c10 => ?_) (fun c10 => ?_)
      · exact absurd c10 (nI_ge (b := 8) hk (by decide))
      · refine And.intro (inn hk (by decide)) ?_
        exact ⟨by rw [nIc (by omega)], rfl⟩
  · refine Ct_of 4 rfl rfl rfl (fun X C => ?_)
    refine V_go C tk_Row_at [] 34 ?_
    refine And.intro (fun c1 => ?_) (fun c1 => ?_)
    · exact absurd c1 (nI_pos (by omega))
    · refine And.intro (fun c10 => ?_) (fun c10 => ?_)
      · exact absurd c10 (nI_ge (b := 8) hk (by decide))
      · refine And.intro (inn hk (by decide)) ?_
        exact ⟨by rw [nIc (by omega)], rfl⟩
  · refine Ct_of 4 rfl rfl rfl (fun X C => ?_)
    refine V_go C tk_Row_at [] 34 ?_
    refine And.intro (fun c1 => ?_) (fun c1 => ?_)
    · exact absurd c1 (nI_pos (by omega))
    · refine And.intro (fun c10 => ?_) (fun c10 => ?_)
      · exact absurd c10 (nI_ge (b := 8) hk (by decide))
      · refine And.intro (inn hk (by decide)) ?_
        exact ⟨by rw [nIc (by omega)], rfl⟩
  · refine Ct_of 4 rfl rfl rfl (fun X C => ?_)
    refine V_go C tk_Row_at [] 34 ?_
    refine And.intro (fun c1 => ?_) (fun c1 => ?_)
    · exact absurd c1 (nI_pos (by omega))
    · refine And.intro (fun c10 => ?_) (fun c10 => ?_)
      · exact absurd c10 (nI_ge (b := 8) hk (by decide))
      · refine And.intro (inn hk (by decide)) ?_
        exact ⟨by rw [nIc (by omega)], rfl⟩
  · refine Ct_of 4 rfl rfl rfl (fun X C => ?_)
    refine V_go C tk_Row_at [] 34 ?_
    refine And.intro (fun c1 => ?_) (fun c1 => ?_)
    · exact absurd c1 (nI_pos (by omega))
    · refine And.intro (fun c10 => ?_) (fun c10 => ?_)
      · exact absurd c10 (nI_ge (b := 8) hk (by decide))
      · refine And.intro (inn hk (by decide)) ?_
        exact ⟨by rw [nIc (by omega)], rfl⟩
theorem ct_Row_put {r a n k : Nat} {x : Int32} (hm : (r, a, n) ∈ rowL) (hx : x = nI k) (hk : k < n) (v : Int32) (h : Hp) : Ct 0 md_Row_put [.ref r, .int x, .int v] h (exV (up2 h.1 a k v, h.2)) := by
  subst hx
  simp only [rowL, List.mem_cons, Prod.mk.injEq, List.mem_nil_iff, or_false] at hm
  rcases hm with ⟨rfl, rfl, rfl⟩ | ⟨rfl, rfl, rfl⟩ | ⟨rfl, rfl, rfl⟩ | ⟨rfl, rfl, rfl⟩ | ⟨rfl, rfl, rfl⟩ | ⟨rfl, rfl, rfl⟩ | ⟨rfl, rfl, rfl⟩ | ⟨rfl, rfl, rfl⟩ | ⟨rfl, rfl, rfl⟩ | ⟨rfl, rfl, rfl⟩ | ⟨rfl, rfl, rfl⟩ | ⟨rfl, rfl, rfl⟩ | ⟨rfl, rfl, rfl⟩ | ⟨rfl, rfl, rfl⟩ | ⟨rfl, rfl, rfl⟩ | ⟨rfl, rfl, rfl⟩ | ⟨rfl, rfl, rfl⟩ | ⟨rfl, rfl, rfl⟩ | ⟨rfl, rfl, rfl⟩ | ⟨rfl, rfl, rfl⟩ | ⟨rfl, rfl, rfl⟩ | ⟨rfl, rfl, rfl⟩ | ⟨rfl, rfl, rfl⟩ | ⟨rfl, rfl, rfl⟩ | ⟨rfl, rfl, rfl⟩ | ⟨rfl, rfl, rfl⟩ | ⟨rfl, rfl, rfl⟩ | ⟨rfl, rfl, rfl⟩ | ⟨rfl, rfl, rfl⟩ | ⟨rfl, rfl, rfl⟩ | ⟨rfl, rfl, rfl⟩ | ⟨rfl, rfl, rfl⟩
  · refine Ct_of 4 rfl rfl rfl (fun X C => ?_)
    refine V_go C tk_Row_put [] 33 ?_
    refine And.intro (fun c1 => ?_) (fun c1 => ?_)
    · exact absurd c1 (nI_pos (by omega))
    · refine And.intro (fun c10 => ?_) (fun c10 => ?_)
      · exact absurd c10 (nI_ge (b := 18) hk (by decide))
      · refine And.intro (inn hk (by decide)) ?_
        exact ⟨rfl, by rw [nIc (by omega)]⟩
  · refine Ct_of 4 rfl rfl rfl (fun X C => ?_)
    refine V_go C tk_Row_put [] 33 ?_
    refine And.intro (fun c1 => ?_) (fun c1 => ?_)
    · exact absurd c1 (nI_pos (by omega))
    · refine And.intro (fun c10 => ?_) (fun c10 => ?_)
      · exact absurd c10 (nI_ge (b := 5) hk (by decide))
      · refine And.intro (inn hk (by decide)) ?_
        exact ⟨rfl, by rw [nIc (by omega)]⟩
  · refine Ct_of 4 rfl rfl rfl (fun X C => ?_)
    refine V_go C tk_Row_put [] 33 ?_
    refine And.intro (fun c1 => ?_) (fun c1 => ?_)
    · exact absurd c1 (nI_pos (by omega))
    · refine And.intro (fun c10 => ?_) (fun c10 => ?_)
      · exact absurd c10 (nI_ge (b := 5) hk (by decide))
      · refine And.intro (inn hk (by decide)) ?_
        exact ⟨rfl, by rw [nIc (by omega)]⟩
  · refine Ct_of 4 rfl rfl rfl (fun X C => ?_)
    refine V_go C tk_Row_put [] 33 ?_
    refine And.intro (fun c1 => ?_) (fun c1 => ?_)
    · exact absurd c1 (nI_pos (by omega))
    · refine And.intro (fun c10 => ?_) (fun c10 => ?_)
      · exact absurd c10 (nI_ge (b := 10) hk (by decide))
      · refine And.intro (inn hk (by decide)) ?_
        exact ⟨rfl, by rw [nIc (by omega)]⟩
  · refine Ct_of 4 rfl rfl rfl (fun X C => ?_)
    refine V_go C tk_Row_put [] 33 ?_
    refine And.intro (fun c1 => ?_) (fun c1 => ?_)
    · exact absurd c1 (nI_pos (by omega))
    · refine And.intro (fun c10 => ?_) (fun c10 => ?_)
      · exact absurd c10 (nI_ge (b := 3) hk (by decide))
      · refine And.intro (inn hk (by decide)) ?_
        exact ⟨rfl, by rw [nIc (by omega)]⟩
  · refine Ct_of 4 rfl rfl rfl (fun X C => ?_)
    refine V_go C tk_Row_put [] 33 ?_
    refine And.intro (fun c1 => ?_) (fun c1 => ?_)
    · exact absurd c1 (nI_pos (by omega))
    · refine And.intro (fun c10 => ?_) (fun c10 => ?_)
      · exact absurd c10 (nI_ge (b := 3) hk (by decide))
      · refine And.intro (inn hk (by decide)) ?_
        exact ⟨rfl, by rw [nIc (by omega)]⟩
  · refine Ct_of 4 rfl rfl rfl (fun X C => ?_)
    refine V_go C tk_Row_put [] 33 ?_
    refine And.intro (fun c1 => ?_) (fun c1 => ?_)
    · exact absurd c1 (nI_pos (by omega))
    · refine And.intro (fun c10 => ?_) (fun c10 => ?_)
      · exact absurd c10 (nI_ge (b := 3) hk (by decide))
      · refine And.intro (inn hk (by decide)) ?_
        exact ⟨rfl, by rw [nIc (by omega)]⟩
  · refine Ct_of 4 rfl rfl rfl (fun X C => ?_)
    refine V_go C tk_Row_put [] 33 ?_
    refine And.intro (fun c1 => ?_) (fun c1 => ?_)
    · exact absurd c1 (nI_pos (by omega))
    · refine And.intro (fun c10 => ?_) (fun c10 => ?_)
      · exact absurd c10 (nI_ge (b := 5) hk (by decide))
      · refine And.intro (inn hk (by decide)) ?_
        exact ⟨rfl, by rw [nIc (by omega)]⟩
  · refine Ct_of 4 rfl rfl rfl (fun X C => ?_)
    refine V_go C tk_Row_put [] 33 ?_
    refine And.intro (fun c1 => ?_) (fun c1 => ?_)
    · exact absurd c1 (nI_pos (by omega))
    · refine And.intro (fun c10 => ?_) (fun c10 => ?_)
      · exact absurd c10 (nI_ge (b := 5) hk (by decide))
      · refine And.intro (inn hk (by decide)) ?_
        exact ⟨rfl, by rw [nIc (by omega)]⟩
  · refine Ct_of 4 rfl rfl rfl (fun X C => ?_)
    refine V_go C tk_Row_put [] 33 ?_
    refine And.intro (fun c1 => ?_) (fun c1 => ?_)
    · exact absurd c1 (nI_pos (by omega))
    · refine And.intro (fun c10 => ?_) (fun c10 => ?_)
      · exact absurd c10 (nI_ge (b := 5) hk (by decide))
      · refine And.intro (inn hk (by decide)) ?_
        exact ⟨rfl, by rw [nIc (by omega)]⟩
  · refine Ct_of 4 rfl rfl rfl (fun X C => ?_)
    refine V_go C tk_Row_put [] 33 ?_
    refine And.intro (fun c1 => ?_) (fun c1 => ?_)
    · exact absurd c1 (nI_pos (by omega))
    · refine And.intro (fun c10 => ?_) (fun c10 => ?_)
      · exact absurd c10 (nI_ge (b := 3) hk (by decide))
      · refine And.intro (inn hk (by decide)) ?_
        exact ⟨rfl, by rw [nIc (by omega)]⟩
  · refine Ct_of 4 rfl rfl rfl (fun X C => ?_)
    refine V_go C tk_Row_put [] 33 ?_
    refine And.intro (fun c1 => ?_) (fun c1 => ?_)
    · exact absurd c1 (nI_pos (by omega))
    · refine And.intro (fun c10 => ?_) (fun c10 => ?_)
      · exact absurd c10 (nI_ge (b := 3) hk (by decide))
      · refine And.intro (inn hk (by decide)) ?_
        exact ⟨rfl, by rw [nIc (by omega)]⟩
  · refine Ct_of 4 rfl rfl rfl (fun X C => ?_)
    refine V_go C tk_Row_put [] 33 ?_
    refine And.intro (fun c1 => ?_) (fun c1 => ?_)
    · exact absurd c1 (nI_pos (by omega))
    · refine And.intro (fun c10 => ?_) (fun c10 => ?_)
      · exact absurd c10 (nI_ge (b := 3) hk (by decide))
      · refine And.intro (inn hk (by decide)) ?_
        exact ⟨rfl, by rw [nIc (by omega)]⟩
  · refine Ct_of 4 rfl rfl rfl (fun X C => ?_)
    refine V_go C tk_Row_put [] 33 ?_
    refine And.intro (fun c1 => ?_) (fun c1 => ?_)
    · exact absurd c1 (nI_pos (by omega))
    · refine And.intro (fun c10 => ?_) (fun c10 => ?_)
      · exact absurd c10 (nI_ge (b := 5) hk (by decide))
      · refine And.intro (inn hk (by decide)) ?_
        exact ⟨rfl, by rw [nIc (by omega)]⟩
  · refine Ct_of 4 rfl rfl rfl (fun X C => ?_)
    refine V_go C tk_Row_put [] 33 ?_
    refine And.intro (fun c1 => ?_) (fun c1 => ?_)
    · exact absurd c1 (nI_pos (by omega))
    · refine And.intro (fun c10 => ?_) (fun c10 => ?_)
      · exact absurd c10 (nI_ge (b := 5) hk (by decide))
      · refine And.intro (inn hk (by decide)) ?_
        exact ⟨rfl, by rw [nIc (by omega)]⟩
  · refine Ct_of 4 rfl rfl rfl (fun X C => ?_)
    refine V_go C tk_Row_put [] 33 ?_
    refine And.intro (fun c1 => ?_) (fun c1 => ?_)
    · exact absurd c1 (nI_pos (by omega))
    · refine And.intro (fun c10 => ?_) (fun c10 => ?_)
      · exact absurd c10 (nI_ge (b := 5) hk (by decide))
      · refine And.intro (inn hk (by decide)) ?_
        exact ⟨rfl, by rw [nIc (by omega)]⟩
  · refine Ct_of 4 rfl rfl rfl (fun X C => ?_)
    refine V_go C tk_Row_put [] 33 ?_
    refine And.intro (fun c1 => ?_) (fun c1 => ?_)
    · exact absurd c1 (nI_pos (by omega))
    · refine And.intro (fun c10 => ?_) (fun c10 => ?_)
      · exact absurd c10 (nI_ge (b := 3) hk (by decide))
      · refine And.intro (inn hk (by decide)) ?_
        exact ⟨rfl, by rw [nIc (by omega)]⟩
  · refine Ct_of 4 rfl rfl rfl (fun X C => ?_)
    refine V_go C tk_Row_put [] 33 ?_
    refine And.intro (fun c1 => ?_) (fun c1 => ?_)
    · exact absurd c1 (nI_pos (by omega))
    · refine And.intro (fun c10 => ?_) (fun c10 => ?_)
      · exact absurd c10 (nI_ge (b := 3) hk (by decide))
      · refine And.intro (inn hk (by decide)) ?_
        exact ⟨rfl, by rw [nIc (by omega)]⟩
  · refine Ct_of 4 rfl rfl rfl (fun X C => ?_)
    refine V_go C tk_Row_put [] 33 ?_
    refine And.intro (fun c1 => ?_) (fun c1 => ?_)
    · exact absurd c1 (nI_pos (by omega))
    · refine And.intro (fun c10 => ?_) (fun c10 => ?_)
      · exact absurd c10 (nI_ge (b := 3) hk (by decide))
      · refine And.intro (inn hk (by decide)) ?_
        exact ⟨rfl, by rw [nIc (by omega)]⟩
  · refine Ct_of 4 rfl rfl rfl (fun X C => ?_)
    refine V_go C tk_Row_put [] 33 ?_
    refine And.intro (fun c1 => ?_) (fun c1 => ?_)
    · exact absurd c1 (nI_pos (by omega))
    · refine And.intro (fun c10 => ?_) (fun c10 => ?_)
      · exact absurd c10 (nI_ge (b := 5) hk (by decide))
      · refine And.intro (inn hk (by decide)) ?_
        exact ⟨rfl, by rw [nIc (by omega)]⟩
  · refine Ct_of 4 rfl rfl rfl (fun X C => ?_)
    refine V_go C tk_Row_put [] 33 ?_
    refine And.intro (fun c1 => ?_) (fun c1 => ?_)
    · exact absurd c1 (nI_pos (by omega))
    · refine And.intro (fun c10 => ?_) (fun c10 => ?_)
      · exact absurd c10 (nI_ge (b := 5) hk (by decide))
      · refine And.intro (inn hk (by decide)) ?_
        exact ⟨rfl, by rw [nIc (by omega)]⟩
  · refine Ct_of 4 rfl rfl rfl (fun X C => ?_)
    refine V_go C tk_Row_put [] 33 ?_
    refine And.intro (fun c1 => ?_) (fun c1 => ?_)
    · exact absurd c1 (nI_pos (by omega))
    · refine And.intro (fun c10 => ?_) (fun c10 => ?_)
      · exact absurd c10 (nI_ge (b := 5) hk (by decide))
      · refine And.intro (inn hk (by decide)) ?_
        exact ⟨rfl, by rw [nIc (by omega)]⟩
  · refine Ct_of 4 rfl rfl rfl (fun X C => ?_)
    refine V_go C tk_Row_put [] 33 ?_
    refine And.intro (fun c1 => ?_) (fun c1 => ?_)
    · exact absurd c1 (nI_pos (by omega))
    · refine And.intro (fun c10 => ?_) (fun c10 => ?_)
      · exact absurd c10 (nI_ge (b := 8) hk (by decide))
      · refine And.intro (inn hk (by decide)) ?_
        exact ⟨rfl, by rw [nIc (by omega)]⟩
  · refine Ct_of 4 rfl rfl rfl (fun X C => ?_)
    refine V_go C tk_Row_put [] 33 ?_
    refine And.intro (fun c1 => ?_) (fun c1 => ?_)
    · exact absurd c1 (nI_pos (by omega))
    · refine And.intro (fun c10 => ?_) (fun c10 => ?_)
      · exact absurd c10 (nI_ge (b := 8) hk (by decide))
      · refine And.intro (inn hk (by decide)) ?_
        exact ⟨rfl, by rw [nIc (by omega)]⟩
  · refine Ct_of 4 rfl rfl rfl (fun X C => ?_)
    refine V_go C tk_Row_put [] 33 ?_
    refine And.intro (fun c1 => ?_) (fun c1 => ?_)
    · exact absurd c1 (nI_pos (by omega))
    · refine And.intro (fun c10 => ?_) (fun c10 => ?_)
      · exact absurd c10 (nI_ge (b := 8) hk (by decide))
      · refine And.intro (inn hk (by decide)) ?_
        exact ⟨rfl, by rw [nIc (by omega)]⟩
  · refine Ct_of 4 rfl rfl rfl (fun X C => ?_)
    refine V_go C tk_Row_put [] 33 ?_
    refine And.intro (fun c1 => ?_) (fun c1 => ?_)
    · exact absurd c1 (nI_pos (by omega))
    · refine And.intro (fun c10 => ?_) (fun c10 => ?_)
      · exact absurd c10 (nI_ge (b := 8) hk (by decide))
      · refine And.intro (inn hk (by decide)) ?_
        exact ⟨rfl, by rw [nIc (by omega)]⟩
  · refine Ct_of 4 rfl rfl rfl (fun X C => ?_)
    refine V_go C tk_Row_put [] 33 ?_
    refine And.intro (fun c1 => ?_) (fun c1 => ?_)
    · exact absurd c1 (nI_pos (by omega))
    · refine And.intro (fun c10 => ?_) (fun c10 => ?_)
      · exact absurd c10 (nI_ge (b := 8) hk (by decide))
      · refine And.intro (inn hk (by decide)) ?_
        exact ⟨rfl, by rw [nIc (by omega)]⟩
  · refine Ct_of 4 rfl rfl rfl (fun X C => ?_)
    refine V_go C tk_Row_put [] 33 ?_
    refine And.intro (fun c1 => ?_) (fun c1 => ?_)
    · exact absurd c1 (nI_pos (by omega))
    · refine And.intro (fun c10 => ?_) (fun c10 => ?_)
      · exact absurd c10 (nI_ge (b := 8) hk (by decide))
      · refine And.intro (inn hk (by decide)) ?_
        exact ⟨rfl, by rw [nIc (by omega)]⟩
  · refine Ct_of 4 rfl rfl rfl (fun X C => ?_)
    refine V_go C tk_Row_put [] 33 ?_
    refine And.intro (fun c1 => ?_) (fun c1 => ?_)
    · exact absurd c1 (nI_pos (by omega))
    · refine And.intro (fun c10 => ?_) (fun c10 => ?_)
      · exact absurd c10 (nI_ge (b := 8) hk (by decide))
      · refine And.intro (inn hk (by decide)) ?_
        exact ⟨rfl, by rw [nIc (by omega)]⟩
  · refine Ct_of 4 rfl rfl rfl (fun X C => ?_)
    refine V_go C tk_Row_put [] 33 ?_
    refine And.intro (fun c1 => ?_) (fun c1 => ?_)
    · exact absurd c1 (nI_pos (by omega))
    · refine And.intro (fun c10 => ?_) (fun c10 => ?_)
      · exact absurd c10 (nI_ge (b := 8) hk (by decide))
      · refine And.intro (inn hk (by decide)) ?_
        exact ⟨rfl, by rw [nIc (by omega)]⟩
  · refine Ct_of 4 rfl rfl rfl (fun X C => ?_)
    refine V_go C tk_Row_put [] 33 ?_
    refine And.intro (fun c1 => ?_) (fun c1 => ?_)
    · exact absurd c1 (nI_pos (by omega))
    · refine And.intro (fun c10 => ?_) (fun c10 => ?_)
      · exact absurd c10 (nI_ge (b := 8) hk (by decide))
      · refine And.intro (inn hk (by decide)) ?_
        exact ⟨rfl, by rw [nIc (by omega)]⟩
  · refine Ct_of 4 rfl rfl rfl (fun X C => ?_)
    refine V_go C tk_Row_put [] 33 ?_
    refine And.intro (fun c1 => ?_) (fun c1 => ?_)
    · exact absurd c1 (nI_pos (by omega))
    · refine And.intro (fun c10 => ?_) (fun c10 => ?_)
      · exact absurd c10 (nI_ge (b := 8) hk (by decide))
      · refine And.intro (inn hk (by decide)) ?_
        exact ⟨rfl, by rw [nIc (by omega)]⟩
def zrH (h : Hp) (a n : Nat) : Hp := (fun x y => if x = a ∧ y < n then 0 else h.1 x y, h.2)
theorem zrH_0 (h : Hp) (a : Nat) : zrH h a 0 = h := by
  unfold zrH
  simp
theorem zrH_s (h : Hp) (a i : Nat) : (up2 (zrH h a i).1 a i 0, (zrH h a i).2) = zrH h a (i + 1) := by
  unfold zrH
  simp only [Prod.mk.injEq, and_true]
  funext x y
  unfold up2
  by_cases hx : x = a
  · subst hx
    by_cases hy : y = i
    · subst hy
      simp
    · simp only [hy, and_false, if_false, true_and]
      by_cases hyi : y < i
      · rw [if_pos hyi, if_pos (by omega)]
      · rw [if_neg hyi, if_neg (by omega)]
  · simp [hx]
theorem ct_Row_clear {r a : Nat} (hm : (r, a) ∈ [(16, 48), (17, 49), (18, 50)]) (h : Hp) : Ct 0 md_Row_clear [.ref r] h (exV (zrH h a 5)) := by
  simp only [List.mem_cons, Prod.mk.injEq, List.mem_nil_iff, or_false] at hm
  rcases hm with ⟨rfl, rfl⟩ | ⟨rfl, rfl⟩ | ⟨rfl, rfl⟩
  · refine Ct_of 4 rfl rfl rfl (fun X C => ?_)
    have loop : ∀ (n i : Nat) (b : Int32) (hh : Hp), i + n = 5 → b = nI i → hh = zrH h 48 i → V X 2 [some (.ref 16), some (.int b)] [] hh := by
      intro n
      induction n with
      | zero =>
        intro i b hh hi hb hhe
        subst hb
        obtain rfl : i = 5 := by omega
        refine V_go C tk_Row_clear [2] 35 ?_
        refine And.intro (fun c8 => ?_) (fun c8 => ?_)
        · exact ⟨rfl, hhe.symm⟩
        · exact absurd (by decide) c8
      | succ n ih =>
        intro i b hh hi hb hhe
        subst hb
        have e3 := nIc (i := i) (by omega)
        refine V_go C tk_Row_clear [2] 35 ?_
        refine And.intro (fun c8 => ?_) (fun c8 => ?_)
        · exact absurd c8 (nI_ge (b := 5) (by omega) (by decide))
        · refine And.intro (inn (by omega) (by decide)) ?_
          exact ih (i + 1) _ _ (by omega) (nI_1 i) (by rw [e3, hhe]; exact zrH_s h _ i)
    refine V_go C tk_Row_clear [2] 35 ?_
    exact loop 5 0 _ _ (by omega) rfl (zrH_0 h _).symm
  · refine Ct_of 4 rfl rfl rfl (fun X C => ?_)
    have loop : ∀ (n i : Nat) (b : Int32) (hh : Hp), i + n = 5 → b = nI i → hh = zrH h 49 i → V X 2 [some (.ref 17), some (.int b)] [] hh := by
      intro n
      induction n with
      | zero =>
        intro i b hh hi hb hhe
        subst hb
        obtain rfl : i = 5 := by omega
        refine V_go C tk_Row_clear [2] 35 ?_
        refine And.intro (fun c8 => ?_) (fun c8 => ?_)
        · exact ⟨rfl, hhe.symm⟩
        · exact absurd (by decide) c8
      | succ n ih =>
        intro i b hh hi hb hhe
        subst hb
        have e3 := nIc (i := i) (by omega)
        refine V_go C tk_Row_clear [2] 35 ?_
        refine And.intro (fun c8 => ?_) (fun c8 => ?_)
        · exact absurd c8 (nI_ge (b := 5) (by omega) (by decide))
        · refine And.intro (inn (by omega) (by decide)) ?_
          exact ih (i + 1) _ _ (by omega) (nI_1 i) (by rw [e3, hhe]; exact zrH_s h _ i)
    refine V_go C tk_Row_clear [2] 35 ?_
    exact loop 5 0 _ _ (by omega) rfl (zrH_0 h _).symm
  · refine Ct_of 4 rfl rfl rfl (fun X C => ?_)
    have loop : ∀ (n i : Nat) (b : Int32) (hh : Hp), i + n = 5 → b = nI i → hh = zrH h 50 i → V X 2 [some (.ref 18), some (.int b)] [] hh := by
      intro n
      induction n with
      | zero =>
        intro i b hh hi hb hhe
        subst hb
        obtain rfl : i = 5 := by omega
        refine V_go C tk_Row_clear [2] 35 ?_
        refine And.intro (fun c8 => ?_) (fun c8 => ?_)
        · exact ⟨rfl, hhe.symm⟩
        · exact absurd (by decide) c8
      | succ n ih =>
        intro i b hh hi hb hhe
        subst hb
        have e3 := nIc (i := i) (by omega)
        refine V_go C tk_Row_clear [2] 35 ?_
        refine And.intro (fun c8 => ?_) (fun c8 => ?_)
        · exact absurd c8 (nI_ge (b := 5) (by omega) (by decide))
        · refine And.intro (inn (by omega) (by decide)) ?_
          exact ih (i + 1) _ _ (by omega) (nI_1 i) (by rw [e3, hhe]; exact zrH_s h _ i)
    refine V_go C tk_Row_clear [2] 35 ?_
    exact loop 5 0 _ _ (by omega) rfl (zrH_0 h _).symm
def cpR : List (Nat × Nat × Nat × Nat × Nat) := [(13, 19, 45, 51, 3), (14, 20, 46, 52, 3), (15, 21, 47, 53, 3), (16, 22, 48, 54, 5), (17, 23, 49, 55, 5), (18, 24, 50, 56, 5), (19, 13, 51, 45, 3), (20, 14, 52, 46, 3), (21, 15, 53, 47, 3), (22, 16, 54, 48, 5), (23, 17, 55, 49, 5), (24, 18, 56, 50, 5), (25, 13, 57, 45, 3), (26, 14, 58, 46, 3), (27, 15, 59, 47, 3), (28, 16, 60, 48, 5), (29, 17, 61, 49, 5), (30, 18, 62, 50, 5), (31, 36, 63, 68, 8), (32, 37, 64, 69, 8), (33, 38, 65, 70, 8), (34, 39, 66, 71, 8), (35, 40, 67, 72, 8), (36, 31, 68, 63, 8), (37, 32, 69, 64, 8), (38, 33, 70, 65, 8), (39, 34, 71, 66, 8), (40, 35, 72, 67, 8)]
/-- row r is copied from row s; their arrays a and b -/
theorem ct_Row_copyFrom {r s a b n : Nat} (hm : (r, s, a, b, n) ∈ cpR) (h : Hp) : Ct 1 md_Row_copyFrom [.ref r, .ref s] h (exV (cpH h b a n)) := by
  simp only [cpR, List.mem_cons, Prod.mk.injEq, List.mem_nil_iff, or_false] at hm
  rcases hm with ⟨rfl, rfl, rfl, rfl, rfl⟩ | ⟨rfl, rfl, rfl, rfl, rfl⟩ | ⟨rfl, rfl, rfl, rfl, rfl⟩ | ⟨rfl, rfl, rfl, rfl, rfl⟩ | ⟨rfl, rfl, rfl, rfl, rfl⟩ | ⟨rfl, rfl, rfl, rfl, rfl⟩ | ⟨rfl, rfl, rfl, rfl, rfl⟩ | ⟨rfl, rfl, rfl, rfl, rfl⟩ | ⟨rfl, rfl, rfl, rfl, rfl⟩ | ⟨rfl, rfl, rfl, rfl, rfl⟩ | ⟨rfl, rfl, rfl, rfl, rfl⟩ | ⟨rfl, rfl, rfl, rfl, rfl⟩ | ⟨rfl, rfl, rfl, rfl, rfl⟩ | ⟨rfl, rfl, rfl, rfl, rfl⟩ | ⟨rfl, rfl, rfl, rfl, rfl⟩ | ⟨rfl, rfl, rfl, rfl, rfl⟩ | ⟨rfl, rfl, rfl, rfl, rfl⟩ | ⟨rfl, rfl, rfl, rfl, rfl⟩ | ⟨rfl, rfl, rfl, rfl, rfl⟩ | ⟨rfl, rfl, rfl, rfl, rfl⟩ | ⟨rfl, rfl, rfl, rfl, rfl⟩ | ⟨rfl, rfl, rfl, rfl, rfl⟩ | ⟨rfl, rfl, rfl, rfl, rfl⟩ | ⟨rfl, rfl, rfl, rfl, rfl⟩ | ⟨rfl, rfl, rfl, rfl, rfl⟩ | ⟨rfl, rfl, rfl, rfl, rfl⟩ | ⟨rfl, rfl, rfl, rfl, rfl⟩ | ⟨rfl, rfl, rfl, rfl, rfl⟩
  · refine Ct_of 4 rfl rfl rfl (fun X C => ?_)
    have loop : ∀ (n i : Nat) (b : Int32) (hh : Hp), i + n = 3 → b = nI i → hh = cpH h 51 45 i → V X 2 [some (.ref 13), some (.ref 19), some (.int b)] [] hh := by
      intro n
      induction n with
      | zero =>
        intro i b hh hi hb hhe
        subst hb
        obtain rfl : i = 3 := by omega
        refine V_go C tk_Row_copyFrom [2] 37 ?_
        refine And.intro (fun c8 => ?_) (fun c8 => ?_)
        · exact ⟨rfl, hhe.symm⟩
        · exact absurd (by decide) c8
      | succ n ih =>
        intro i b hh hi hb hhe
        subst hb
        have e3 := nIc (i := i) (by omega)
        refine V_go C tk_Row_copyFrom [2] 37 ?_
        refine And.intro (fun c8 => ?_) (fun c8 => ?_)
        · exact absurd c8 (nI_ge (b := 3) (by omega) (by decide))
        · refine ⟨_, ⟨_, by decide, (ct_Row_at (r := 19) (a := 51) (n := 3) (by decide) rfl (by omega) hh)⟩, fun r18 h18 p18 => ?_⟩
          obtain ⟨rfl, rfl⟩ := p18
          refine And.intro (inn (by omega) (by decide)) ?_
          exact ih (i + 1) _ _ (by omega) (nI_1 i) (by rw [e3, hhe]; exact cpH_s h (by decide) i)
    refine V_go C tk_Row_copyFrom [2] 37 ?_
    exact loop 3 0 _ _ (by omega) rfl (cpH_0 h _ _).symm
  · refine Ct_of 4 rfl rfl rfl (fun X C => ?_)
    have loop : ∀ (n i : Nat) (b : Int32) (hh : Hp), i + n = 3 → b = nI i → hh = cpH h 52 46 i → V X 2 [some (.ref 14), some (.ref 20), some (.int b)] [] hh := by
      intro n
      induction n with
      | zero =>
        intro i b hh hi hb hhe
        subst hb
        obtain rfl : i = 3 := by omega
        refine V_go C tk_Row_copyFrom [2] 37 ?_
        refine And.intro (fun c8 => ?_) (fun c8 => ?_)
        · exact ⟨rfl, hhe.symm⟩
        · exact absurd (by decide) c8
      | succ n ih =>
        intro i b hh hi hb hhe
        subst hb
        have e3 := nIc (i := i) (by omega)
        refine V_go C tk_Row_copyFrom [2] 37 ?_
        refine And.intro (fun c8 => ?_) (fun c8 => ?_)
        · exact absurd c8 (nI_ge (b := 3) (by omega) (by decide))
        · refine ⟨_, ⟨_, by decide, (ct_Row_at (r := 20) (a := 52) (n := 3) (by decide) rfl (by omega) hh)⟩, fun r18 h18 p18 => ?_⟩
          obtain ⟨rfl, rfl⟩ := p18
          refine And.intro (inn (by omega) (by decide)) ?_
          exact ih (i + 1) _ _ (by omega) (nI_1 i) (by rw [e3, hhe]; exact cpH_s h (by decide) i)
    refine V_go C tk_Row_copyFrom [2] 37 ?_
    exact loop 3 0 _ _ (by omega) rfl (cpH_0 h _ _).symm
  · refine Ct_of 4 rfl rfl rfl (fun X C => ?_)
    have loop : ∀ (n i : Nat) (b : Int32) (hh : Hp), i + n = 3 → b = nI i → hh = cpH h 53 47 i → V X 2 [some (.ref 15), some (.ref 21), some (.int b)] [] hh := by
      intro n
      induction n with
      | zero =>
        intro i b hh hi hb hhe
        subst hb
        obtain rfl : i = 3 := by omega
        refine V_go C tk_Row_copyFrom [2] 37 ?_
        refine And.intro (fun c8 => ?_) (fun c8 => ?_)
        · exact ⟨rfl, hhe.symm⟩
        · exact absurd (by decide) c8
      | succ n ih =>
        intro i b hh hi hb hhe
        subst hb
        have e3 := nIc (i := i) (by omega)
        refine V_go C tk_Row_copyFrom [2] 37 ?_
        refine And.intro (fun c8 => ?_) (fun c8 => ?_)
        · exact absurd c8 (nI_ge (b := 3) (by omega) (by decide))
        · refine ⟨_, ⟨_, by decide, (ct_Row_at (r := 21) (a := 53) (n := 3) (by decide) rfl (by omega) hh)⟩, fun r18 h18 p18 => ?_⟩
          obtain ⟨rfl, rfl⟩ := p18
          refine And.intro (inn (by omega) (by decide)) ?_
          exact ih (i + 1) _ _ (by omega) (nI_1 i) (by rw [e3, hhe]; exact cpH_s h (by decide) i)
    refine V_go C tk_Row_copyFrom [2] 37 ?_
    exact loop 3 0 _ _ (by omega) rfl (cpH_0 h _ _).symm
  · refine Ct_of 4 rfl rfl rfl (fun X C => ?_)
    have loop : ∀ (n i : Nat) (b : Int32) (hh : Hp), i + n = 5 → b = nI i → hh = cpH h 54 48 i → V X 2 [some (.ref 16), some (.ref 22), some (.int b)] [] hh := by
      intro n
      induction n with
      | zero =>
        intro i b hh hi hb hhe
        subst hb
        obtain rfl : i = 5 := by omega
        refine V_go C tk_Row_copyFrom [2] 37 ?_
        refine And.intro (fun c8 => ?_) (fun c8 => ?_)
        · exact ⟨rfl, hhe.symm⟩
        · exact absurd (by decide) c8
      | succ n ih =>
        intro i b hh hi hb hhe
        subst hb
        have e3 := nIc (i := i) (by omega)
        refine V_go C tk_Row_copyFrom [2] 37 ?_
        refine And.intro (fun c8 => ?_) (fun c8 => ?_)
        · exact absurd c8 (nI_ge (b := 5) (by omega) (by decide))
        · refine ⟨_, ⟨_, by decide, (ct_Row_at (r := 22) (a := 54) (n := 5) (by decide) rfl (by omega) hh)⟩, fun r18 h18 p18 => ?_⟩
          obtain ⟨rfl, rfl⟩ := p18
          refine And.intro (inn (by omega) (by decide)) ?_
          exact ih (i + 1) _ _ (by omega) (nI_1 i) (by rw [e3, hhe]; exact cpH_s h (by decide) i)
    refine V_go C tk_Row_copyFrom [2] 37 ?_
    exact loop 5 0 _ _ (by omega) rfl (cpH_0 h _ _).symm
  · refine Ct_of 4 rfl rfl rfl (fun X C => ?_)
    have loop : ∀ (n i : Nat) (b : Int32) (hh : Hp), i + n = 5 → b = nI i → hh = cpH h 55 49 i → V X 2 [some (.ref 17), some (.ref 23), some (.int b)] [] hh := by
      intro n
      induction n with
      | zero =>
        intro i b hh hi hb hhe
        subst hb
        obtain rfl : i = 5 := by omega
        refine V_go C tk_Row_copyFrom [2] 37 ?_
        refine And.intro (fun c8 => ?_) (fun c8 => ?_)
        · exact ⟨rfl, hhe.symm⟩
        · exact absurd (by decide) c8
      | succ n ih =>
        intro i b hh hi hb hhe
        subst hb
        have e3 := nIc (i := i) (by omega)
        refine V_go C tk_Row_copyFrom [2] 37 ?_
        refine And.intro (fun c8 => ?_) (fun c8 => ?_)
        · exact absurd c8 (nI_ge (b := 5) (by omega) (by decide))
        · refine ⟨_, ⟨_, by decide, (ct_Row_at (r := 23) (a := 55) (n := 5) (by decide) rfl (by omega) hh)⟩, fun r18 h18 p18 => ?_⟩
          obtain ⟨rfl, rfl⟩ := p18
          refine And.intro (inn (by omega) (by decide)) ?_
          exact ih (i + 1) _ _ (by omega) (nI_1 i) (by rw [e3, hhe]; exact cpH_s h (by decide) i)
    refine V_go C tk_Row_copyFrom [2] 37 ?_
    exact loop 5 0 _ _ (by omega) rfl (cpH_0 h _ _).symm
  · refine Ct_of 4 rfl rfl rfl (fun X C => ?_)
    have loop : ∀ (n i : Nat) (b : Int32) (hh : Hp), i + n = 5 → b = nI i → hh = cpH h 56 50 i → V X 2 [some (.ref 18), some (.ref 24), some (.int b)] [] hh := by
      intro n
      induction n with
      | zero =>
        intro i b hh hi hb hhe
        subst hb
        obtain rfl : i = 5 := by omega
        refine V_go C tk_Row_copyFrom [2] 37 ?_
        refine And.intro (fun c8 => ?_) (fun c8 => ?_)
        · exact ⟨rfl, hhe.symm⟩
        · exact absurd (by decide) c8
      | succ n ih =>
        intro i b hh hi hb hhe
        subst hb
        have e3 := nIc (i := i) (by omega)
        refine V_go C tk_Row_copyFrom [2] 37 ?_
        refine And.intro (fun c8 => ?_) (fun c8 => ?_)
        · exact absurd c8 (nI_ge (b := 5) (by omega) (by decide))
        · refine ⟨_, ⟨_, by decide, (ct_Row_at (r := 24) (a := 56) (n := 5) (by decide) rfl (by omega) hh)⟩, fun r18 h18 p18 => ?_⟩
          obtain ⟨rfl, rfl⟩ := p18
          refine And.intro (inn (by omega) (by decide)) ?_
          exact ih (i + 1) _ _ (by omega) (nI_1 i) (by rw [e3, hhe]; exact cpH_s h (by decide) i)
    refine V_go C tk_Row_copyFrom [2] 37 ?_
    exact loop 5 0 _ _ (by omega) rfl (cpH_0 h _ _).symm
  · refine Ct_of 4 rfl rfl rfl (fun X C => ?_)
    have loop : ∀ (n i : Nat) (b : Int32) (hh : Hp), i + n = 3 → b = nI i → hh = cpH h 45 51 i → V X 2 [some (.ref 19), some (.ref 13), some (.int b)] [] hh := by
      intro n
      induction n with
      | zero =>
        intro i b hh hi hb hhe
        subst hb
        obtain rfl : i = 3 := by omega
        refine V_go C tk_Row_copyFrom [2] 37 ?_
        refine And.intro (fun c8 => ?_) (fun c8 => ?_)
        · exact ⟨rfl, hhe.symm⟩
        · exact absurd (by decide) c8
      | succ n ih =>
        intro i b hh hi hb hhe
        subst hb
        have e3 := nIc (i := i) (by omega)
        refine V_go C tk_Row_copyFrom [2] 37 ?_
        refine And.intro (fun c8 => ?_) (fun c8 => ?_)
        · exact absurd c8 (nI_ge (b := 3) (by omega) (by decide))
        · refine ⟨_, ⟨_, by decide, (ct_Row_at (r := 13) (a := 45) (n := 3) (by decide) rfl (by omega) hh)⟩, fun r18 h18 p18 => ?_⟩
          obtain ⟨rfl, rfl⟩ := p18
          refine And.intro (inn (by omega) (by decide)) ?_
          exact ih (i + 1) _ _ (by omega) (nI_1 i) (by rw [e3, hhe]; exact cpH_s h (by decide) i)
    refine V_go C tk_Row_copyFrom [2] 37 ?_
    exact loop 3 0 _ _ (by omega) rfl (cpH_0 h _ _).symm
  · refine Ct_of 4 rfl rfl rfl (fun X C => ?_)
    have loop : ∀ (n i : Nat) (b : Int32) (hh : Hp), i + n = 3 → b = nI i → hh = cpH h 46 52 i → V X 2 [some (.ref 20), some (.ref 14), some (.int b)] [] hh := by
      intro n
      induction n with
      | zero =>
        intro i b hh hi hb hhe
        subst hb
        obtain rfl : i = 3 := by omega
        refine V_go C tk_Row_copyFrom [2] 37 ?_
        refine And.intro (fun c8 => ?_) (fun c8 => ?_)
        · exact ⟨rfl, hhe.symm⟩
        · exact absurd (by decide) c8
      | succ n ih =>
        intro i b hh hi hb hhe
        subst hb
        have e3 := nIc (i := i) (by omega)
        refine V_go C tk_Row_copyFrom [2] 37 ?_
        refine And.intro (fun c8 => ?_) (fun c8 => ?_)
        · exact absurd c8 (nI_ge (b := 3) (by omega) (by decide))
        · refine ⟨_, ⟨_, by decide, (ct_Row_at (r := 14) (a := 46) (n := 3) (by decide) rfl (by omega) hh)⟩, fun r18 h18 p18 => ?_⟩
          obtain ⟨rfl, rfl⟩ := p18
          refine And.intro (inn (by omega) (by decide)) ?_
          exact ih (i + 1) _ _ (by omega) (nI_1 i) (by rw [e3, hhe]; exact cpH_s h (by decide) i)
    refine V_go C tk_Row_copyFrom [2] 37 ?_
    exact loop 3 0 _ _ (by omega) rfl (cpH_0 h _ _).symm
  · refine Ct_of 4 rfl rfl rfl (fun X C => ?_)
    have loop : ∀ (n i : Nat) (b : Int32) (hh : Hp), i + n = 3 → b = nI i → hh = cpH h 47 53 i → V X 2 [some (.ref 21), some (.ref 15), some (.int b)] [] hh := by
      intro n
      induction n with
      | zero =>
        intro i b hh hi hb hhe
        subst hb
        obtain rfl : i = 3 := by omega
        refine V_go C tk_Row_copyFrom [2] 37 ?_
        refine And.intro (fun c8 => ?_) (fun c8 => ?_)
        · exact ⟨rfl, hhe.symm⟩
        · exact absurd (by decide) c8
      | succ n ih =>
        intro i b hh hi hb hhe
        subst hb
        have e3 := nIc (i := i) (by omega)
        refine V_go C tk_Row_copyFrom [2] 37 ?_
        refine And.intro (fun c8 => ?_) (fun c8 => ?_)
        · exact absurd c8 (nI_ge (b := 3) (by omega) (by decide))
        · refine ⟨_, ⟨_, by decide, (ct_Row_at (r := 15) (a := 47) (n := 3) (by decide) rfl (by omega) hh)⟩, fun r18 h18 p18 => ?_⟩
          obtain ⟨rfl, rfl⟩ := p18
          refine And.intro (inn (by omega) (by decide)) ?_
          exact ih (i + 1) _ _ (by omega) (nI_1 i) (by rw [e3, hhe]; exact cpH_s h (by decide) i)
    refine V_go C tk_Row_copyFrom [2] 37 ?_
    exact loop 3 0 _ _ (by omega) rfl (cpH_0 h _ _).symm
  · refine Ct_of 4 rfl rfl rfl (fun X C => ?_)
    have loop : ∀ (n i : Nat) (b : Int32) (hh : Hp), i + n = 5 → b = nI i → hh = cpH h 48 54 i → V X 2 [some (.ref 22), some (.ref 16), some (.int b)] [] hh := by
      intro n
      induction n with
      | zero =>
        intro i b hh hi hb hhe
        subst hb
        obtain rfl : i = 5 := by omega
        refine V_go C tk_Row_copyFrom [2] 37 ?_
        refine And.intro (fun c8 => ?_) (fun c8 => ?_)
        · exact ⟨rfl, hhe.symm⟩
        · exact absurd (by decide) c8
      | succ n ih =>
        intro i b hh hi hb hhe
        subst hb
        have e3 := nIc (i := i) (by omega)
        refine V_go C tk_Row_copyFrom [2] 37 ?_
        refine And.intro (fun c8 => ?_) (fun c8 => ?_)
        · exact absurd c8 (nI_ge (b := 5) (by omega) (by decide))
        · refine ⟨_, ⟨_, by decide, (ct_Row_at (r := 16) (a := 48) (n := 5) (by decide) rfl (by omega) hh)⟩, fun r18 h18 p18 => ?_⟩
          obtain ⟨rfl, rfl⟩ := p18
          refine And.intro (inn (by omega) (by decide)) ?_
          exact ih (i + 1) _ _ (by omega) (nI_1 i) (by rw [e3, hhe]; exact cpH_s h (by decide) i)
    refine V_go C tk_Row_copyFrom [2] 37 ?_
    exact loop 5 0 _ _ (by omega) rfl (cpH_0 h _ _).symm
  · refine Ct_of 4 rfl rfl rfl (fun X C => ?_)
    have loop : ∀ (n i : Nat) (b : Int32) (hh : Hp), i + n = 5 → b = nI i → hh = cpH h 49 55 i → V X 2 [some (.ref 23), some (.ref 17), some (.int b)] [] hh := by
      intro n
      induction n with
      | zero =>
        intro i b hh hi hb hhe
        subst hb
        obtain rfl : i = 5 := by omega
        refine V_go C tk_Row_copyFrom [2] 37 ?_
        refine And.intro (fun c8 => ?_) (fun c8 => ?_)
        · exact ⟨rfl, hhe.symm⟩
        · exact absurd (by decide) c8
      | succ n ih =>
        intro i b hh hi hb hhe
        subst hb
        have e3 := nIc (i := i) (by omega)
        refine V_go C tk_Row_copyFrom [2] 37 ?_
        refine And.intro (fun c8 => ?_) (fun c8 => ?_)
        · exact absurd c8 (nI_ge (b := 5) (by omega) (by decide))
        · refine ⟨_, ⟨_, by decide, (ct_Row_at (r := 17) (a := 49) (n := 5) (by decide) rfl (by omega) hh)⟩, fun r18 h18 p18 => ?_⟩
          obtain ⟨rfl, rfl⟩ := p18
          refine And.intro (inn (by omega) (by decide)) ?_
          exact ih (i + 1) _ _ (by omega) (nI_1 i) (by rw [e3, hhe]; exact cpH_s h (by decide) i)
    refine V_go C tk_Row_copyFrom [2] 37 ?_
    exact loop 5 0 _ _ (by omega) rfl (cpH_0 h _ _).symm
  · refine Ct_of 4 rfl rfl rfl (fun X C => ?_)
    have loop : ∀ (n i : Nat) (b : Int32) (hh : Hp), i + n = 5 → b = nI i → hh = cpH h 50 56 i → V X 2 [some (.ref 24), some (.ref 18), some (.int b)] [] hh := by
      intro n
      induction n with
      | zero =>
        intro i b hh hi hb hhe
        subst hb
        obtain rfl : i = 5 := by omega
        refine V_go C tk_Row_copyFrom [2] 37 ?_
        refine And.intro (fun c8 => ?_) (fun c8 => ?_)
        · exact ⟨rfl, hhe.symm⟩
        · exact absurd (by decide) c8
      | succ n ih =>
        intro i b hh hi hb hhe
        subst hb
        have e3 := nIc (i := i) (by omega)
        refine V_go C tk_Row_copyFrom [2] 37 ?_
        refine And.intro (fun c8 => ?_) (fun c8 => ?_)
        · exact absurd c8 (nI_ge (b := 5) (by omega) (by decide))
        · refine ⟨_, ⟨_, by decide, (ct_Row_at (r := 18) (a := 50) (n := 5) (by decide) rfl (by omega) hh)⟩, fun r18 h18 p18 => ?_⟩
          obtain ⟨rfl, rfl⟩ := p18
          refine And.intro (inn (by omega) (by decide)) ?_
          exact ih (i + 1) _ _ (by omega) (nI_1 i) (by rw [e3, hhe]; exact cpH_s h (by decide) i)
    refine V_go C tk_Row_copyFrom [2] 37 ?_
    exact loop 5 0 _ _ (by omega) rfl (cpH_0 h _ _).symm
  · refine Ct_of 4 rfl rfl rfl (fun X C => ?_)
    have loop : ∀ (n i : Nat) (b : Int32) (hh : Hp), i + n = 3 → b = nI i → hh = cpH h 45 57 i → V X 2 [some (.ref 25), some (.ref 13), some (.int b)] [] hh := by
      intro n
      induction n with
      | zero =>
        intro i b hh hi hb hhe
        subst hb
        obtain rfl : i = 3 := by omega
        refine V_go C tk_Row_copyFrom [2] 37 ?_
        refine And.intro (fun c8 => ?_) (fun c8 => ?_)
        · exact ⟨rfl, hhe.symm⟩
        · exact absurd (by decide) c8
      | succ n ih =>
        intro i b hh hi hb hhe
        subst hb
        have e3 := nIc (i := i) (by omega)
        refine V_go C tk_Row_copyFrom [2] 37 ?_
        refine And.intro (fun c8 => ?_) (fun c8 => ?_)
        · exact absurd c8 (nI_ge (b := 3) (by omega) (by decide))
        · refine ⟨_, ⟨_, by decide, (ct_Row_at (r := 13) (a := 45) (n := 3) (by decide) rfl (by omega) hh)⟩, fun r18 h18 p18 => ?_⟩
          obtain ⟨rfl, rfl⟩ := p18
          refine And.intro (inn (by omega) (by decide)) ?_
          exact ih (i + 1) _ _ (by omega) (nI_1 i) (by rw [e3, hhe]; exact cpH_s h (by decide) i)
    refine V_go C tk_Row_copyFrom [2] 37 ?_
    exact loop 3 0 _ _ (by omega) rfl (cpH_0 h _ _).symm
  · refine Ct_of 4 rfl rfl rfl (fun X C => ?_)
    have loop : ∀ (n i : Nat) (b : Int32) (hh : Hp), i + n = 3 → b = nI i → hh = cpH h 46 58 i → V X 2 [some (.ref 26), some (.ref 14), some (.int b)] [] hh := by
      intro n
      induction n with
      | zero =>
        intro i b hh hi hb hhe
        subst hb
        obtain rfl : i = 3 := by omega
        refine V_go C tk_Row_copyFrom [2] 37 ?_
        refine And.intro (fun c8 => ?_) (fun c8 => ?_)
        · exact ⟨rfl, hhe.symm⟩
        · exact absurd (by decide) c8
      | succ n ih =>
        intro i b hh hi hb hhe
        subst hb
        have e3 := nIc (i := i) (by omega)
        refine V_go C tk_Row_copyFrom [2] 37 ?_
        refine And.intro (fun c8 => ?_) (fun c8 => ?_)
        · exact absurd c8 (nI_ge (b := 3) (by omega) (by decide))
        · refine ⟨_, ⟨_, by decide, (ct_Row_at (r := 14) (a := 46) (n := 3) (by decide) rfl (by omega) hh)⟩, fun r18 h18 p18 => ?_⟩
          obtain ⟨rfl, rfl⟩ := p18
          refine And.intro (inn (by omega) (by decide)) ?_
          exact ih (i + 1) _ _ (by omega) (nI_1 i) (by rw [e3, hhe]; exact cpH_s h (by decide) i)
    refine V_go C tk_Row_copyFrom [2] 37 ?_
    exact loop 3 0 _ _ (by omega) rfl (cpH_0 h _ _).symm
  · refine Ct_of 4 rfl rfl rfl (fun X C => ?_)
    have loop : ∀ (n i : Nat) (b : Int32) (hh : Hp), i + n = 3 → b = nI i → hh = cpH h 47 59 i → V X 2 [some (.ref 27), some (.ref 15), some (.int b)] [] hh := by
      intro n
      induction n with
      | zero =>
        intro i b hh hi hb hhe
        subst hb
        obtain rfl : i = 3 := by omega
        refine V_go C tk_Row_copyFrom [2] 37 ?_
        refine And.intro (fun c8 => ?_) (fun c8 => ?_)
        · exact ⟨rfl, hhe.symm⟩
        · exact absurd (by decide) c8
      | succ n ih =>
        intro i b hh hi hb hhe
        subst hb
        have e3 := nIc (i := i) (by omega)
        refine V_go C tk_Row_copyFrom [2] 37 ?_
        refine And.intro (fun c8 => ?_) (fun c8 => ?_)
        · exact absurd c8 (nI_ge (b := 3) (by omega) (by decide))
        · refine ⟨_, ⟨_, by decide, (ct_Row_at (r := 15) (a := 47) (n := 3) (by decide) rfl (by omega) hh)⟩, fun r18 h18 p18 => ?_⟩
          obtain ⟨rfl, rfl⟩ := p18
          refine And.intro (inn (by omega) (by decide)) ?_
          exact ih (i + 1) _ _ (by omega) (nI_1 i) (by rw [e3, hhe]; exact cpH_s h (by decide) i)
    refine V_go C tk_Row_copyFrom [2] 37 ?_
    exact loop 3 0 _ _ (by omega) rfl (cpH_0 h _ _).symm
  · refine Ct_of 4 rfl rfl rfl (fun X C => ?_)
    have loop : ∀ (n i : Nat) (b : Int32) (hh : Hp), i + n = 5 → b = nI i → hh = cpH h 48 60 i → V X 2 [some (.ref 28), some (.ref 16), some (.int b)] [] hh := by
      intro n
      induction n with
      | zero =>
        intro i b hh hi hb hhe
        subst hb
        obtain rfl : i = 5 := by omega
        refine V_go C tk_Row_copyFrom [2] 37 ?_
        refine And.intro (fun c8 => ?_) (fun c8 => ?_)
        · exact ⟨rfl, hhe.symm⟩
        · exact absurd (by decide) c8
      | succ n ih =>
        intro i b hh hi hb hhe
        subst hb
        have e3 := nIc (i := i) (by omega)
        refine V_go C tk_Row_copyFrom [2] 37 ?_
        refine And.intro (fun c8 => ?_) (fun c8 => ?_)
        · exact absurd c8 (nI_ge (b := 5) (by omega) (by decide))
        · refine ⟨_, ⟨_, by decide, (ct_Row_at (r := 16) (a := 48) (n := 5) (by decide) rfl (by omega) hh)⟩, fun r18 h18 p18 => ?_⟩
          obtain ⟨rfl, rfl⟩ := p18
          refine And.intro (inn (by omega) (by decide)) ?_
          exact ih (i + 1) _ _ (by omega) (nI_1 i) (by rw [e3, hhe]; exact cpH_s h (by decide) i)
    refine V_go C tk_Row_copyFrom [2] 37 ?_
    exact loop 5 0 _ _ (by omega) rfl (cpH_0 h _ _).symm
  · refine Ct_of 4 rfl rfl rfl (fun X C => ?_)
    have loop : ∀ (n i : Nat) (b : Int32) (hh : Hp), i + n = 5 → b = nI i → hh = cpH h 49 61 i → V X 2 [some (.ref 29), some (.ref 17), some (.int b)] [] hh := by
      intro n
      induction n with
      | zero =>
        intro i b hh hi hb hhe
        subst hb
        obtain rfl : i = 5 := by omega
        refine V_go C tk_Row_copyFrom [2] 37 ?_
        refine And.intro (fun c8 => ?_) (fun c8 => ?_)
        · exact ⟨rfl, hhe.symm⟩
        · exact absurd (by decide) c8
      | succ n ih =>
        intro i b hh hi hb hhe
        subst hb
        have e3 := nIc (i := i) (by omega)
        refine V_go C tk_Row_copyFrom [2] 37 ?_
        refine And.intro (fun c8 => ?_) (fun c8 => ?_)
        · exact absurd c8 (nI_ge (b := 5) (by omega) (by decide))
        · refine ⟨_, ⟨_, by decide, (ct_Row_at (r := 17) (a := 49) (n := 5) (by decide) rfl (by omega) hh)⟩, fun r18 h18 p18 => ?_⟩
          obtain ⟨rfl, rfl⟩ := p18
          refine And.intro (inn (by omega) (by decide)) ?_
          exact ih (i + 1) _ _ (by omega) (nI_1 i) (by rw [e3, hhe]; exact cpH_s h (by decide) i)
    refine V_go C tk_Row_copyFrom [2] 37 ?_
    exact loop 5 0 _ _ (by omega) rfl (cpH_0 h _ _).symm
  · refine Ct_of 4 rfl rfl rfl (fun X C => ?_)
    have loop : ∀ (n i : Nat) (b : Int32) (hh : Hp), i + n = 5 → b = nI i → hh = cpH h 50 62 i → V X 2 [some (.ref 30), some (.ref 18), some (.int b)] [] hh := by
      intro n
      induction n with
      | zero =>
        intro i b hh hi hb hhe
        subst hb
        obtain rfl : i = 5 := by omega
        refine V_go C tk_Row_copyFrom [2] 37 ?_
        refine And.intro (fun c8 => ?_) (fun c8 => ?_)
        · exact ⟨rfl, hhe.symm⟩
        · exact absurd (by decide) c8
      | succ n ih =>
        intro i b hh hi hb hhe
        subst hb
        have e3 := nIc (i := i) (by omega)
        refine V_go C tk_Row_copyFrom [2] 37 ?_
        refine And.intro (fun c8 => ?_) (fun c8 => ?_)
        · exact absurd c8 (nI_ge (b := 5) (by omega) (by decide))
        · refine ⟨_, ⟨_, by decide, (ct_Row_at (r := 18) (a := 50) (n := 5) (by decide) rfl (by omega) hh)⟩, fun r18 h18 p18 => ?_⟩
          obtain ⟨rfl, rfl⟩ := p18
          refine And.intro (inn (by omega) (by decide)) ?_
          exact ih (i + 1) _ _ (by omega) (nI_1 i) (by rw [e3, hhe]; exact cpH_s h (by decide) i)
    refine V_go C tk_Row_copyFrom [2] 37 ?_
    exact loop 5 0 _ _ (by omega) rfl (cpH_0 h _ _).symm
  · refine Ct_of 4 rfl rfl rfl (fun X C => ?_)
    have loop : ∀ (n i : Nat) (b : Int32) (hh : Hp), i + n = 8 → b = nI i → hh = cpH h 68 63 i → V X 2 [some (.ref 31), some (.ref 36), some (.int b)] [] hh := by
      intro n
      induction n with
      | zero =>
        intro i b hh hi hb hhe
        subst hb
        obtain rfl : i = 8 := by omega
        refine V_go C tk_Row_copyFrom [2] 37 ?_
        refine And.intro (fun c8 => ?_) (fun c8 => ?_)
        · exact ⟨rfl, hhe.symm⟩
        · exact absurd (by decide) c8
      | succ n ih =>
        intro i b hh hi hb hhe
        subst hb
        have e3 := nIc (i := i) (by omega)
        refine V_go C tk_Row_copyFrom [2] 37 ?_
        refine And.intro (fun c8 => ?_) (fun c8 => ?_)
        · exact absurd c8 (nI_ge (b := 8) (by omega) (by decide))
        · refine ⟨_, ⟨_, by decide, (ct_Row_at (r := 36) (a := 68) (n := 8) (by decide) rfl (by omega) hh)⟩, fun r18 h18 p18 => ?_⟩
          obtain ⟨rfl, rfl⟩ := p18
          refine And.intro (inn (by omega) (by decide)) ?_
          exact ih (i + 1) _ _ (by omega) (nI_1 i) (by rw [e3, hhe]; exact cpH_s h (by decide) i)
    refine V_go C tk_Row_copyFrom [2] 37 ?_
    exact loop 8 0 _ _ (by omega) rfl (cpH_0 h _ _).symm
  · refine Ct_of 4 rfl rfl rfl (fun X C => ?_)
    have loop : ∀ (n i : Nat) (b : Int32) (hh : Hp), i + n = 8 → b = nI i → hh = cpH h 69 64 i → V X 2 [some (.ref 32), some (.ref 37), some (.int b)] [] hh := by
      intro n
      induction n with
      | zero =>
        intro i b hh hi hb hhe
        subst hb
        obtain rfl : i = 8 := by omega
        refine V_go C tk_Row_copyFrom [2] 37 ?_
        refine And.intro (fun c8 => ?_) (fun c8 => ?_)
        · exact ⟨rfl, hhe.symm⟩
        · exact absurd (by decide) c8
      | succ n ih =>
        intro i b hh hi hb hhe
        subst hb
        have e3 := nIc (i := i) (by omega)
        refine V_go C tk_Row_copyFrom [2] 37 ?_
        refine And.intro (fun c8 => ?_) (fun c8 => ?_)
        · exact absurd c8 (nI_ge (b := 8) (by omega) (by decide))
        · refine ⟨_, ⟨_, by decide, (ct_Row_at (r := 37) (a := 69) (n := 8) (by decide) rfl (by omega) hh)⟩, fun r18 h18 p18 => ?_⟩
          obtain ⟨rfl, rfl⟩ := p18
          refine And.intro (inn (by omega) (by decide)) ?_
          exact ih (i + 1) _ _ (by omega) (nI_1 i) (by rw [e3, hhe]; exact cpH_s h (by decide) i)
    refine V_go C tk_Row_copyFrom [2] 37 ?_
    exact loop 8 0 _ _ (by omega) rfl (cpH_0 h _ _).symm
  · refine Ct_of 4 rfl rfl rfl (fun X C => ?_)
    have loop : ∀ (n i : Nat) (b : Int32) (hh : Hp), i + n = 8 → b = nI i → hh = cpH h 70 65 i → V X 2 [some (.ref 33), some (.ref 38), some (.int b)] [] hh := by
      intro n
      induction n with
      | zero =>
        intro i b hh hi hb hhe
        subst hb
        obtain rfl : i = 8 := by omega
        refine V_go C tk_Row_copyFrom [2] 37 ?_
        refine And.intro (fun c8 => ?_) (fun c8 => ?_)
        · exact ⟨rfl, hhe.symm⟩
        · exact absurd (by decide) c8
      | succ n ih =>
        intro i b hh hi hb hhe
        subst hb
        have e3 := nIc (i := i) (by omega)
        refine V_go C tk_Row_copyFrom [2] 37 ?_
        refine And.intro (fun c8 => ?_) (fun c8 => ?_)
        · exact absurd c8 (nI_ge (b := 8) (by omega) (by decide))
        · refine ⟨_, ⟨_, by decide, (ct_Row_at (r := 38) (a := 70) (n := 8) (by decide) rfl (by omega) hh)⟩, fun r18 h18 p18 => ?_⟩
          obtain ⟨rfl, rfl⟩ := p18
          refine And.intro (inn (by omega) (by decide)) ?_
          exact ih (i + 1) _ _ (by omega) (nI_1 i) (by rw [e3, hhe]; exact cpH_s h (by decide) i)
    refine V_go C tk_Row_copyFrom [2] 37 ?_
    exact loop 8 0 _ _ (by omega) rfl (cpH_0 h _ _).symm
  · refine Ct_of 4 rfl rfl rfl (fun X C => ?_)
    have loop : ∀ (n i : Nat) (b : Int32) (hh : Hp), i + n = 8 → b = nI i → hh = cpH h 71 66 i → V X 2 [some (.ref 34), some (.ref 39), some (.int b)] [] hh := by
      intro n
      induction n with
      | zero =>
        intro i b hh hi hb hhe
        subst hb
        obtain rfl : i = 8 := by omega
        refine V_go C tk_Row_copyFrom [2] 37 ?_
        refine And.intro (fun c8 => ?_) (fun c8 => ?_)
        · exact ⟨rfl, hhe.symm⟩
        · exact absurd (by decide) c8
      | succ n ih =>
        intro i b hh hi hb hhe
        subst hb
        have e3 := nIc (i := i) (by omega)
        refine V_go C tk_Row_copyFrom [2] 37 ?_
        refine And.intro (fun c8 => ?_) (fun c8 => ?_)
        · exact absurd c8 (nI_ge (b := 8) (by omega) (by decide))
        · refine ⟨_, ⟨_, by decide, (ct_Row_at (r := 39) (a := 71) (n := 8) (by decide) rfl (by omega) hh)⟩, fun r18 h18 p18 => ?_⟩
          obtain ⟨rfl, rfl⟩ := p18
          refine And.intro (inn (by omega) (by decide)) ?_
          exact ih (i + 1) _ _ (by omega) (nI_1 i) (by rw [e3, hhe]; exact cpH_s h (by decide) i)
    refine V_go C tk_Row_copyFrom [2] 37 ?_
    exact loop 8 0 _ _ (by omega) rfl (cpH_0 h _ _).symm
  · refine Ct_of 4 rfl rfl rfl (fun X C => ?_)
    have loop : ∀ (n i : Nat) (b : Int32) (hh : Hp), i + n = 8 → b = nI i → hh = cpH h 72 67 i → V X 2 [some (.ref 35), some (.ref 40), some (.int b)] [] hh := by
      intro n
      induction n with
      | zero =>
        intro i b hh hi hb hhe
        subst hb
        obtain rfl : i = 8 := by omega
        refine V_go C tk_Row_copyFrom [2] 37 ?_
        refine And.intro (fun c8 => ?_) (fun c8 => ?_)
        · exact ⟨rfl, hhe.symm⟩
        · exact absurd (by decide) c8
      | succ n ih =>
        intro i b hh hi hb hhe
        subst hb
        have e3 := nIc (i := i) (by omega)
        refine V_go C tk_Row_copyFrom [2] 37 ?_
        refine And.intro (fun c8 => ?_) (fun c8 => ?_)
        · exact absurd c8 (nI_ge (b := 8) (by omega) (by decide))
        · refine ⟨_, ⟨_, by decide, (ct_Row_at (r := 40) (a := 72) (n := 8) (by decide) rfl (by omega) hh)⟩, fun r18 h18 p18 => ?_⟩
          obtain ⟨rfl, rfl⟩ := p18
          refine And.intro (inn (by omega) (by decide)) ?_
          exact ih (i + 1) _ _ (by omega) (nI_1 i) (by rw [e3, hhe]; exact cpH_s h (by decide) i)
    refine V_go C tk_Row_copyFrom [2] 37 ?_
    exact loop 8 0 _ _ (by omega) rfl (cpH_0 h _ _).symm
  · refine Ct_of 4 rfl rfl rfl (fun X C => ?_)
    have loop : ∀ (n i : Nat) (b : Int32) (hh : Hp), i + n = 8 → b = nI i → hh = cpH h 63 68 i → V X 2 [some (.ref 36), some (.ref 31), some (.int b)] [] hh := by
      intro n
      induction n with
      | zero =>
        intro i b hh hi hb hhe
        subst hb
        obtain rfl : i = 8 := by omega
        refine V_go C tk_Row_copyFrom [2] 37 ?_
        refine And.intro (fun c8 => ?_) (fun c8 => ?_)
        · exact ⟨rfl, hhe.symm⟩
        · exact absurd (by decide) c8
      | succ n ih =>
        intro i b hh hi hb hhe
        subst hb
        have e3 := nIc (i := i) (by omega)
        refine V_go C tk_Row_copyFrom [2] 37 ?_
        refine And.intro (fun c8 => ?_) (fun c8 => ?_)
        · exact absurd c8 (nI_ge (b := 8) (by omega) (by decide))
        · refine ⟨_, ⟨_, by decide, (ct_Row_at (r := 31) (a := 63) (n := 8) (by decide) rfl (by omega) hh)⟩, fun r18 h18 p18 => ?_⟩
          obtain ⟨rfl, rfl⟩ := p18
          refine And.intro (inn (by omega) (by decide)) ?_
          exact ih (i + 1) _ _ (by omega) (nI_1 i) (by rw [e3, hhe]; exact cpH_s h (by decide) i)
    refine V_go C tk_Row_copyFrom [2] 37 ?_
    exact loop 8 0 _ _ (by omega) rfl (cpH_0 h _ _).symm
  · refine Ct_of 4 rfl rfl rfl (fun X C => ?_)
    have loop : ∀ (n i : Nat) (b : Int32) (hh : Hp), i + n = 8 → b = nI i → hh = cpH h 64 69 i → V X 2 [some (.ref 37), some (.ref 32), some (.int b)] [] hh := by
      intro n
      induction n with
      | zero =>
        intro i b hh hi hb hhe
        subst hb
        obtain rfl : i = 8 := by omega
        refine V_go C tk_Row_copyFrom [2] 37 ?_
        refine And.intro (fun c8 => ?_) (fun c8 => ?_)
        · exact ⟨rfl, hhe.symm⟩
        · exact absurd (by decide) c8
      | succ n ih =>
        intro i b hh hi hb hhe
        subst hb
        have e3 := nIc (i := i) (by omega)
        refine V_go C tk_Row_copyFrom [2] 37 ?_
        refine And.intro (fun c8 => ?_) (fun c8 => ?_)
        · exact absurd c8 (nI_ge (b := 8) (by omega) (by decide))
        · refine ⟨_, ⟨_, by decide, (ct_Row_at (r := 32) (a := 64) (n := 8) (by decide) rfl (by omega) hh)⟩, fun r18 h18 p18 => ?_⟩
          obtain ⟨rfl, rfl⟩ := p18
          refine And.intro (inn (by omega) (by decide)) ?_
          exact ih (i + 1) _ _ (by omega) (nI_1 i) (by rw [e3, hhe]; exact cpH_s h (by decide) i)
    refine V_go C tk_Row_copyFrom [2] 37 ?_
    exact loop 8 0 _ _ (by omega) rfl (cpH_0 h _ _).symm
  · refine Ct_of 4 rfl rfl rfl (fun X C => ?_)
    have loop : ∀ (n i : Nat) (b : Int32) (hh : Hp), i + n = 8 → b = nI i → hh = cpH h 65 70 i → V X 2 [some (.ref 38), some (.ref 33), some (.int b)] [] hh := by
      intro n
      induction n with
      | zero =>
        intro i b hh hi hb hhe
        subst hb
        obtain rfl : i = 8 := by omega
        refine V_go C tk_Row_copyFrom [2] 37 ?_
        refine And.intro (fun c8 => ?_) (fun c8 => ?_)
        · exact ⟨rfl, hhe.symm⟩
        · exact absurd (by decide) c8
      | succ n ih =>
        intro i b hh hi hb hhe
        subst hb
        have e3 := nIc (i := i) (by omega)
        refine V_go C tk_Row_copyFrom [2] 37 ?_
        refine And.intro (fun c8 => ?_) (fun c8 => ?_)
        · exact absurd c8 (nI_ge (b := 8) (by omega) (by decide))
        · refine ⟨_, ⟨_, by decide, (ct_Row_at (r := 33) (a := 65) (n := 8) (by decide) rfl (by omega) hh)⟩, fun r18 h18 p18 => ?_⟩
          obtain ⟨rfl, rfl⟩ := p18
          refine And.intro (inn (by omega) (by decide)) ?_
          exact ih (i + 1) _ _ (by omega) (nI_1 i) (by rw [e3, hhe]; exact cpH_s h (by decide) i)
    refine V_go C tk_Row_copyFrom [2] 37 ?_
    exact loop 8 0 _ _ (by omega) rfl (cpH_0 h _ _).symm
  · refine Ct_of 4 rfl rfl rfl (fun X C => ?_)
    have loop : ∀ (n i : Nat) (b : Int32) (hh : Hp), i + n = 8 → b = nI i → hh = cpH h 66 71 i → V X 2 [some (.ref 39), some (.ref 34), some (.int b)] [] hh := by
      intro n
      induction n with
      | zero =>
        intro i b hh hi hb hhe
        subst hb
        obtain rfl : i = 8 := by omega
        refine V_go C tk_Row_copyFrom [2] 37 ?_
        refine And.intro (fun c8 => ?_) (fun c8 => ?_)
        · exact ⟨rfl, hhe.symm⟩
        · exact absurd (by decide) c8
      | succ n ih =>
        intro i b hh hi hb hhe
        subst hb
        have e3 := nIc (i := i) (by omega)
        refine V_go C tk_Row_copyFrom [2] 37 ?_
        refine And.intro (fun c8 => ?_) (fun c8 => ?_)
        · exact absurd c8 (nI_ge (b := 8) (by omega) (by decide))
        · refine ⟨_, ⟨_, by decide, (ct_Row_at (r := 34) (a := 66) (n := 8) (by decide) rfl (by omega) hh)⟩, fun r18 h18 p18 => ?_⟩
          obtain ⟨rfl, rfl⟩ := p18
          refine And.intro (inn (by omega) (by decide)) ?_
          exact ih (i + 1) _ _ (by omega) (nI_1 i) (by rw [e3, hhe]; exact cpH_s h (by decide) i)
    refine V_go C tk_Row_copyFrom [2] 37 ?_
    exact loop 8 0 _ _ (by omega) rfl (cpH_0 h _ _).symm
  · refine Ct_of 4 rfl rfl rfl (fun X C => ?_)
    have loop : ∀ (n i : Nat) (b : Int32) (hh : Hp), i + n = 8 → b = nI i → hh = cpH h 67 72 i → V X 2 [some (.ref 40), some (.ref 35), some (.int b)] [] hh := by
      intro n
      induction n with
      | zero =>
        intro i b hh hi hb hhe
        subst hb
        obtain rfl : i = 8 := by omega
        refine V_go C tk_Row_copyFrom [2] 37 ?_
        refine And.intro (fun c8 => ?_) (fun c8 => ?_)
        · exact ⟨rfl, hhe.symm⟩
        · exact absurd (by decide) c8
      | succ n ih =>
        intro i b hh hi hb hhe
        subst hb
        have e3 := nIc (i := i) (by omega)
        refine V_go C tk_Row_copyFrom [2] 37 ?_
        refine And.intro (fun c8 => ?_) (fun c8 => ?_)
        · exact absurd c8 (nI_ge (b := 8) (by omega) (by decide))
        · refine ⟨_, ⟨_, by decide, (ct_Row_at (r := 35) (a := 67) (n := 8) (by decide) rfl (by omega) hh)⟩, fun r18 h18 p18 => ?_⟩
          obtain ⟨rfl, rfl⟩ := p18
          refine And.intro (inn (by omega) (by decide)) ?_
          exact ih (i + 1) _ _ (by omega) (nI_1 i) (by rw [e3, hhe]; exact cpH_s h (by decide) i)
    refine V_go C tk_Row_copyFrom [2] 37 ?_
    exact loop 8 0 _ _ (by omega) rfl (cpH_0 h _ _).symm
theorem ct_Row_bitsBelow {r a : Nat} (hm : (r, a) ∈ [(16, 48), (28, 60)]) (lim : Int32) (h : Hp) : Ct 0 md_Row_bitsBelow [.ref r, .int lim] h (ex (.int (nI (msk (fun k => decide (h.1 a k < lim)) 5))) h) := by
  simp only [List.mem_cons, Prod.mk.injEq, List.mem_nil_iff, or_false] at hm
  rcases hm with ⟨rfl, rfl⟩ | ⟨rfl, rfl⟩
  · refine Ct_of 4 rfl rfl rfl (fun X C => ?_)
    have loop : ∀ (n i : Nat) (m b : Int32), i + n = 5 → m = nI (msk (fun k => decide (h.1 48 k < lim)) i) → b = nI i → V X 4 [some (.ref 16), some (.int lim), some (.int m), some (.int b)] [] h := by
      intro n
      induction n with
      | zero =>
        intro i m b hi hm hb
        subst hb
        obtain rfl : i = 5 := by omega
        refine V_go C tk_Row_bitsBelow [4] 45 ?_
        refine And.intro (fun c10 => ?_) (fun c10 => ?_)
        · exact ⟨by rw [hm], rfl⟩
        · exact absurd (by decide) c10
      | succ n ih =>
        intro i m b hi hm hb
        subst hb
        have e3 := nIc (i := i) (by omega)
        have em : msk (fun k => decide (h.1 48 k < lim)) (i + 1) = msk (fun k => decide (h.1 48 k < lim)) i ||| (bif decide (h.1 48 i < lim) then 2 ^ i else 0) := rfl
        refine V_go C tk_Row_bitsBelow [4] 45 ?_
        refine And.intro (fun c10 => ?_) (fun c10 => ?_)
        · exact absurd c10 (nI_ge (b := 5) (by omega) (by decide))
        · refine And.intro (inn (by omega) (by decide)) ?_
          refine And.intro (fun c20 => ?_) (fun c20 => ?_)
          · rw [e3] at c20
            exact ih (i + 1) _ _ (by omega) (by rw [hm, em, decide_eq_false (Int32.not_lt.mpr c20)]; simp) (nI_1 i)
          · rw [e3] at c20
            exact ih (i + 1) _ _ (by omega) (by rw [hm, em, decide_eq_true (ne_le c20), shl1 (by omega)]; exact fa_or _ _) (nI_1 i)
    refine V_go C tk_Row_bitsBelow [4] 45 ?_
    exact loop 5 0 _ _ rfl rfl rfl
  · refine Ct_of 4 rfl rfl rfl (fun X C => ?_)
    have loop : ∀ (n i : Nat) (m b : Int32), i + n = 5 → m = nI (msk (fun k => decide (h.1 60 k < lim)) i) → b = nI i → V X 4 [some (.ref 28), some (.int lim), some (.int m), some (.int b)] [] h := by
      intro n
      induction n with
      | zero =>
        intro i m b hi hm hb
        subst hb
        obtain rfl : i = 5 := by omega
        refine V_go C tk_Row_bitsBelow [4] 45 ?_
        refine And.intro (fun c10 => ?_) (fun c10 => ?_)
        · exact ⟨by rw [hm], rfl⟩
        · exact absurd (by decide) c10
      | succ n ih =>
        intro i m b hi hm hb
        subst hb
        have e3 := nIc (i := i) (by omega)
        have em : msk (fun k => decide (h.1 60 k < lim)) (i + 1) = msk (fun k => decide (h.1 60 k < lim)) i ||| (bif decide (h.1 60 i < lim) then 2 ^ i else 0) := rfl
        refine V_go C tk_Row_bitsBelow [4] 45 ?_
        refine And.intro (fun c10 => ?_) (fun c10 => ?_)
        · exact absurd c10 (nI_ge (b := 5) (by omega) (by decide))
        · refine And.intro (inn (by omega) (by decide)) ?_
          refine And.intro (fun c20 => ?_) (fun c20 => ?_)
          · rw [e3] at c20
            exact ih (i + 1) _ _ (by omega) (by rw [hm, em, decide_eq_false (Int32.not_lt.mpr c20)]; simp) (nI_1 i)
          · rw [e3] at c20
            exact ih (i + 1) _ _ (by omega) (by rw [hm, em, decide_eq_true (ne_le c20), shl1 (by omega)]; exact fa_or _ _) (nI_1 i)
    refine V_go C tk_Row_bitsBelow [4] 45 ?_
    exact loop 5 0 _ _ rfl rfl rfl
