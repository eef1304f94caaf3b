def meaN (H : HH) (v : Nat) : Nat → Nat := sumN (fun c => wgt c v (nP H) * awayS H (playS H c))
theorem meaN_s {H : HH} {v k : Nat} : meaN H v (k + 1) = meaN H v k + wgt k v (nP H) * awayS H (playS H k) := rfl
theorem ten_le {n : Nat} (h : n ≤ 4) : 10 ^ n ≤ 10000 ∧ 0 < 10 ^ n := ⟨Nat.le_trans (Nat.pow_le_pow_right (by decide) h) (by decide), Nat.pow_pos (by decide)⟩
theorem meaN_le {H : HH} {v : Nat} (ok : OKH H) (hv : v ≤ 10) (k : Nat) : meaN H v k ≤ k * (10000 * 6) := sumN_le (fun c _ => Nat.mul_le_mul (Nat.le_trans (wgt_le hv _) (ten_le ok.p4).1) (awayS_le ok))
theorem X_mean_28 {q : Int64 → DD → Prop} {x : DD} {H : HH} {v w : Nat} (hX : XH 1 x H) (ok : OKH H) (hv : v ≤ 10) (hw : w < 2) (h : ∀ d', XK x d' → q (lowV (meaN H v (2 ^ nP H)) (10 ^ nP H) w) d') : Ev SX MX4_mean 28 [.ref 0, .int (nI v), .int (nI w), .long (lN 0), uJ, .int (nI 0)] [] x (rL q) := by
  have o4 := ok.p4
  have hN : 2 ^ nP H ≤ 16 := Nat.le_trans (Nat.pow_le_pow_right (by decide) o4) (by decide)
  have ht := ten_le o4
  refine for_up (W := fun k d' => Ev SX MX4_mean 28 [.ref 0, .int (nI v), .int (nI w), .long (lN (meaN H v k)), uJ, .int (nI k)] [] d' (rL q)) (I := fun _ d' => XK x d') (2 ^ nP H) ?_ ?_ 0 x (Nat.zero_le _) XK.rf
  · intro d' g1
    have hl := meaN_le (v := v) ok hv (2 ^ nP H)
    refine bk_X4_mean_28 (br_t ?_ ?_)
    · rw [(hX.xk g1).np, shl1 (by omega)]; exact nI_le (Nat.le_refl _) (by omega)
    · rw [(hX.xk g1).np]
      refine X_power (b := 10) (by omega) ?_
      rw [nI_64 (n := 10 ^ nP H) (by omega)]
      exact X_lowest (by omega) (by omega) ht.2 hw (h d' g1)
  · intro k d' hk g1 ih
    have ha := awayS_le (P := playS H k) ok
    refine bk_X4_mean_28 (br_f ?_ (X_run (sil := k) isH1 (hX.xk g1) ok (by omega) fun d2 f e => X_weight (hX.xk (g1.tr f.k)) ok (by omega) hv (X_away isH1 (hX.xk (g1.tr f.k)) ok (play_inv ok) e (nm_e ?_))))
    · rw [(hX.xk g1).np, shl1 (by omega)]; exact fun c => absurd ((nI_leI (by omega) (by omega)).mp c) (by omega)
    · have := ih d2 (g1.tr f.k)
      rw [meaN_s] at this
      rw [nI_64 (n := awayS H (playS H k)) (by omega), lN_mul, lN_add, nI_1]
      exact this
