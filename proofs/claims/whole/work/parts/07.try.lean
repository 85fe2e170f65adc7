def onesF (x : Int32) : Nat → Int32
  | 0 => 0
  | k + 1 => onesF x k + ((x >>> (nI k &&& 31)) &&& 1)
theorem ct_M_ones (x : Int32) (h : Hp) : Ct 0 md_M_ones [.int x] h (some (.int (onesF x 16))) h := by
  refine Ct_of 7 rfl rfl rfl (fun X C => ?_)
  have loop : ∀ (n i : Nat) (a b : Int32), i + n = 16 → a = onesF x i → b = nI i → V X 4 [some (.int x), some (.int a), some (.int b)] [] h := by
    intro n
    induction n with
    | zero =>
      intro i a b hi ha hb
      obtain rfl : i = 16 := by omega
      subst hb
      refine V_go C tk_M_ones [4] 30 ?_
      refine And.intro (fun _ => ?_) (fun c => absurd (by decide) c)
      exact ⟨by rw [ha], rfl⟩
    | succ n ih =>
      intro i a b hi ha hb
      refine V_go C tk_M_ones [4] 30 ?_
      refine And.intro (fun c => absurd c (by rw [hb]; exact nI_ge (b := 16) (by omega) (by decide))) (fun _ => ?_)
      exact ih (i + 1) _ _ (by omega) (by rw [ha, hb]; rfl) (by rw [hb]; exact nI_1 i)
  refine V_go C tk_M_ones [4] 30 ?_
  exact loop 16 0 _ _ rfl rfl rfl
