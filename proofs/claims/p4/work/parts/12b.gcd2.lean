theorem M_lowest {q : Int64 → DD → Prop} {d : DD} {num den w : Nat} (hn : num < 2 ^ 30) (hd : den < 2 ^ 30) (h0 : 0 < den) (hw : w < 2) (h : q (lowV num den w) d) : Cn SM MX5_lowest [.long (lN num), .long (lN den), .int (nI w)] d (rL q) := by
  have gp : 0 < Nat.gcd num den := Nat.gcd_pos_of_pos_right _ h0
  have gl : Nat.gcd num den < 2 ^ 31 := Nat.lt_of_le_of_lt (Nat.gcd_le_right _ h0) (by omega)
  refine cn_X5_lowest ?_
  suffices hh : ∀ n a b, b < n → a < 2 ^ 30 → b < 2 ^ 30 → Nat.gcd a b = Nat.gcd num den → Ev SM MX5_lowest 6 [.long (lN num), uJ, .long (lN den), uJ, .int (nI w), .long (lN a), uJ, .long (lN b), uJ, uJ, uJ] [] d (rL q) from hh (den + 1) num den (by omega) hn hd rfl
  intro n
  induction n with
  | zero => intro a b hb; exact absurd hb (Nat.not_lt_zero b)
  | succ n ih =>
    intro a b hb ha hb2 hg
    rcases Nat.eq_zero_or_pos b with z | z
    · subst z
      rw [Nat.gcd_zero_right] at hg
      subst hg
      unfold lowV at h
      refine bk_X5_lowest_6 (br_t ((lcmp0 (by omega)).mpr rfl) ?_)
      rw [pk_lDiv (by omega) gp (by omega), pk_lDiv (by omega) gp (by omega)]
      rcases (show w = 0 ∨ w = 1 by omega) with rfl | rfl
      · exact rr_t rfl ⟨lN_ne0 gl gp, h⟩
      · exact rr_f (by decide) ⟨lN_ne0 gl gp, h⟩
    · have r1 := Nat.mod_lt a z
      have g1 : Nat.gcd b (a % b) = Nat.gcd num den := by rw [← hg, Nat.gcd_comm a b, Nat.gcd_rec b a, Nat.gcd_comm]
      refine bk_X5_lowest_6 (br_f (fun y => absurd ((lcmp0 (by omega)).mp y) (by omega)) ⟨lN_ne0 (by omega) z, nm_e ?_⟩)
      rw [jreml_N (by omega) z (by omega)]
      exact ih b (a % b) (by omega) hb2 (by omega) g1
