/-! ===== the heap behind the two constructors ===== -/
def h00 : Hp := (fun i j => bif Nat.beq i 73 && Nat.beq j 26 then -1 else 0, 0)
def K00 : KF := (0, 0, 0, fun _ => 0, fun _ => 0, 0, fun _ => 0)
def H00 : HD := (0, fun _ => 0, fun _ => 0, fun _ => false, fun _ => 0, fun _ => false)
theorem Inv_00 : Inv 0 h00 := by
  have z : ∀ {k : Nat} {P : Prop}, k < 0 → P := fun h => absurd h (Nat.not_lt_zero _)
  refine ⟨K00, stA, fun _ => 0, fun _ => 0, 0, H00, 0, fun _ => 0, 0, ⟨⟨⟨⟨rfl, by decide⟩, ⟨rfl, by decide⟩, ⟨rfl, by decide⟩, fun k hk => z hk⟩, fun x _ => rfl⟩, ⟨⟨rfl, by decide⟩, fun s hs => z hs, fun k hk => z hk, ⟨rfl, by decide⟩, rfl⟩, ⟨⟨rfl, by decide⟩, fun i hi => z hi⟩, ⟨⟨rfl, by decide⟩, fun j hj => z hj⟩, rfl⟩, ⟨⟨⟨⟨rfl, by decide⟩, ⟨rfl, by decide⟩, ⟨rfl, by decide⟩, fun k hk => z hk, ⟨rfl, by decide⟩, fun s hs => z hs⟩, ⟨fun k hk => z hk, fun s hs => z hs, rfl⟩, fun k hk => z hk, rfl, by decide⟩, ⟨⟨rfl, by decide⟩, fun i hi => z hi⟩, ⟨⟨rfl, by decide⟩, fun j hj => z hj⟩, rfl⟩, ⟨fun i hi => z hi, fun j hj => z hj, Nat.le_refl 0⟩, Or.inl rfl, Or.inl ⟨rfl, by decide⟩⟩
