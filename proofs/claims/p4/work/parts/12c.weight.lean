/-! ===== how many of the cases a set of strings takes ===== -/
def wgt (c v : Nat) : Nat → Nat
  | 0 => 1
  | k + 1 => wgt c v k * (if c.testBit k then v else 10 - v)
theorem wgt_le {c v : Nat} (hv : v ≤ 10) : ∀ k, wgt c v k ≤ 10 ^ k := by
  intro k
  induction k with
  | zero => exact Nat.le_refl _
  | succ k ih =>
    show wgt c v k * _ ≤ 10 ^ k * 10
    refine Nat.mul_le_mul ih ?_
    split <;> omega
theorem X_weight {q : Int64 → DD → Prop} {d : DD} {H : HH} {c v : Nat} (hX : XH 1 d H) (ok : OKH H) (hc : c < 2 ^ 30) (hv : v ≤ 10) (h : q (lN (wgt c v (nP H))) d) : Cn SX MX4_weight [.ref 0, .int (nI c), .int (nI v)] d (rL q) := by
  have o4 := ok.p4
  refine cn_X4_weight ?_
  rw [li_0]
  refine for_up (W := fun k d' => Ev SX MX4_weight 5 [.ref 0, .int (nI c), .int (nI v), .long (lN (wgt c v k)), uJ, .int (nI k)] [] d' (rL q)) (I := fun _ d' => d' = d) (nP H) ?_ ?_ 0 d (Nat.zero_le _) rfl
  · rintro d' rfl
    refine bk_X4_weight_5 (br_t ?_ h)
    rw [hX.np]; exact nI_le (Nat.le_refl _) (by omega)
  · rintro k d' hk rfl ih
    have := ih d' rfl
    rw [show wgt c v (k + 1) = wgt c v k * (if c.testBit k then v else 10 - v) from rfl] at this
    refine bk_X4_weight_5 (br_f ?_ ?_)
    · rw [hX.np]; exact fun z => absurd ((nI_leI (by omega) (by omega)).mp z) (by omega)
    · rw [bit_of (by omega) (by omega), li_10, pk_sub hv, nI_64 (n := 10 - v) (by omega), nI_64 (n := v) (by omega), lN_mul, lN_mul, nI_1]
      cases hb : c.testBit k
      · rw [hb] at this; exact rr_f (by decide) (nm_e this)
      · rw [hb] at this; exact rr_t rfl (nm_e this)
