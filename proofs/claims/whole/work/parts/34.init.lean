theorem inv_0 : Inv I_0 F_0 := by
  refine ⟨0, 0, 0, 0, 0, 0, 0, 0, 0, ⟨by decide, rfl, rfl, rfl, fun j h => absurd h (Nat.not_lt_zero j)⟩, ⟨by decide, by decide, by decide, rfl, rfl, rfl, rfl, rfl, rfl⟩, ⟨fun j h => absurd h (Nat.not_lt_zero j), fun j h => absurd h (Nat.not_lt_zero j)⟩, fun j h => absurd h (Nat.not_lt_zero j), fun j h => absurd h (Nat.not_lt_zero j), ⟨fun j h => absurd h (Nat.not_lt_zero j), fun j h => absurd h (Nat.not_lt_zero j), ?_, fun j h => absurd h (Nat.not_lt_zero j), ?_, ⟨0, by decide, rfl⟩, rfl, ⟨0, by decide, rfl⟩, rfl, rfl, rfl⟩, ⟨rfl, 0, by decide, rfl⟩, ⟨by decide, by decide, rfl, rfl, rfl, fun j h => absurd h (Nat.not_lt_zero j)⟩, ⟨by decide, rfl, ?_⟩, ⟨by decide, by decide, rfl, rfl, rfl, rfl, fun j h => absurd h (Nat.not_lt_zero j), fun j h => absurd h (Nat.not_lt_zero j)⟩⟩
  · intro k _ h
    match k, h with
    | 0, _ => rfl
    | 1, _ => rfl
    | 2, _ => rfl
    | 3, _ => rfl
    | 4, _ => rfl
    | 5, _ => rfl
  · intro k _ h
    match k, h with
    | 0, _ => rfl
    | 1, _ => rfl
    | 2, _ => rfl
    | 3, _ => rfl
    | 4, _ => rfl
    | 5, _ => rfl
  · intro i _
    rw [Nat.zero_testBit]
    exact ⟨rfl, fun h => absurd h Bool.false_ne_true⟩
