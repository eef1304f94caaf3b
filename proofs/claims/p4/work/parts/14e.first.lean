/-! ===== the first state of both ===== -/
def x00 : DD := fun _ _ => 0
theorem rel00 : Rel x00 dM0 := by
  have z0 : nI 0 = (0 : Int32) := rfl
  refine ⟨fun _ _ => 0, ?_, ?_, ?_, ?_, ?_, ?_, ?_, ?_, ?_, ?_, ?_⟩
  · exact ⟨Nat.zero_le _, Nat.zero_le _, Nat.zero_le _, fun t h => absurd h (Nat.not_lt_zero t), fun t h => absurd h (Nat.not_lt_zero t), fun t h => absurd h (Nat.not_lt_zero t)⟩
  · exact ⟨rfl, rfl, rfl, fun t h => absurd h (Nat.not_lt_zero t), fun t h => absurd h (Nat.not_lt_zero t), fun t h => absurd h (Nat.not_lt_zero t)⟩
  · exact ⟨by rw [dM0_0]; rfl, by rw [dM0_0]; rfl, by rw [dM0_0]; rfl, fun t h => absurd h (Nat.not_lt_zero t), fun t h => absurd h (Nat.not_lt_zero t), fun t h => absurd h (Nat.not_lt_zero t)⟩
  · exact ⟨0, (by omega), rfl, by rw [dM0_0]; rfl, fun i h => absurd h (Nat.not_lt_zero i)⟩
  · exact ⟨0, (by omega), rfl, by rw [dM0_0]; rfl, fun i h => absurd h (Nat.not_lt_zero i)⟩
  · exact fun k hk => Or.inl ⟨rfl, by rw [dM0_13]; rfl⟩
  · intro k hk
    refine Or.inl ⟨rfl, ?_⟩
    rw [dM0_14]
    match k, hk with
    | 0, _ => rfl
    | 1, _ => rfl
    | 2, _ => rfl
    | 3, _ => rfl
  · refine ⟨fun i hi => ?_, fun i hi => ?_⟩
    · rw [dM0_4]
      match i, hi with
      | 0, _ => rfl
      | 1, _ => rfl
      | 2, _ => rfl
      | 3, _ => rfl
      | 4, _ => rfl
      | 5, _ => rfl
      | 6, _ => rfl
    · rw [dM0_5]
      have : ∀ i : Fin 33, (upd (upd (upd (upd (upd (upd (upd (upd (upd (upd (upd (upd (upd (upd (upd (upd (upd (upd (upd (upd (upd (upd (upd (upd (upd (upd (upd (upd (upd (upd (upd (upd (upd (fun _ => 0) 0 112) 1 108) 2 97) 3 105) 4 110) 5 114) 6 111) 7 110) 8 100) 9 111) 10 102) 11 117) 12 103) 13 117) 14 101) 15 108) 16 117) 17 108) 18 108) 19 97) 20 98) 21 121) 22 112) 23 108) 24 97) 25 121) 26 101) 27 114) 28 98) 29 111) 30 117) 31 110) 32 100) i.1 = lettC.getD i.1 0 := by decide +kernel
      exact this ⟨i, hi⟩
  · rw [dM0_0]; rfl
  · rw [dM0_0]; exact Or.inl rfl
  · rw [dM0_0]; rfl
