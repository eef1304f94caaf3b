def lucN (H : HH) (v p : Nat) : Nat → Nat := sumN (fun c => if playS H c 1 (H 9 p) = 0 then wgt c v (nP H) else 0)
theorem lucN_s {H : HH} {v p k : Nat} : lucN H v p (k + 1) = lucN H v p k + (if playS H k 1 (H 9 p) = 0 then wgt k v (nP H) else 0) := rfl
theorem lucN_le {H : HH} {v p : Nat} (ok : OKH H) (hv : v ≤ 10) (k : Nat) : lucN H v p k ≤ k * 10000 := sumN_le (fun c _ => by
  have := Nat.le_trans (wgt_le (c := c) hv (nP H)) (ten_le ok.p4).1
  split
  · exact this
  · exact Nat.zero_le _)
theorem X_luck_40 {q : Int64 → DD → Prop} {x : DD} {H : HH} {v w p : Nat} (hX : XH 1 x H) (ok : OKH H) (hv : v ≤ 10) (hp : p < nB H) (hw : w < 2) (h : ∀ d', XK x d' → q (lowV (lucN H v p (2 ^ nP H)) (10 ^ nP H) w) d') : Ev SX MX4_luck 40 [.ref 0, .int (nI v), .int (nI p), .int (nI w), .long (lN 0), uJ, .int (nI 0)] [] x (rL q) := by
  have o4 := ok.p4
  have hN : 2 ^ nP H ≤ 16 := Nat.le_trans (Nat.pow_le_pow_right (by decide) o4) (by decide)
  have ht := ten_le o4
  refine for_up (W := fun k d' => Ev SX MX4_luck 40 [.ref 0, .int (nI v), .int (nI p), .int (nI w), .long (lN (lucN H v p k)), uJ, .int (nI k)] [] d' (rL q)) (I := fun _ d' => XK x d') (2 ^ nP H) ?_ ?_ 0 x (Nat.zero_le _) XK.rf
  · intro d' g1
    have hl := lucN_le (v := v) (p := p) ok hv (2 ^ nP H)
    refine bk_X4_luck_40 (br_t ?_ ?_)
    · rw [(hX.xk g1).np, shl1 (by omega)]; exact nI_le (Nat.le_refl _) (by omega)
    · rw [(hX.xk g1).np]
      refine X_power (b := 10) (by omega) ?_
      rw [nI_64 (n := 10 ^ nP H) (by omega)]
      exact X_lowest (by omega) (by omega) ht.2 hw (h d' g1)
  · intro k d' hk g1 ih
    refine bk_X4_luck_40 (br_f ?_ (X_run (sil := k) isH1 (hX.xk g1) ok (by omega) fun d2 f e => X_getsAway isH1 (hX.xk (g1.tr f.k)) ok (play_inv ok) e hp ?_))
    · rw [(hX.xk g1).np, shl1 (by omega)]; exact fun c => absurd ((nI_leI (by omega) (by omega)).mp c) (by omega)
    · have := ih d2 (g1.tr f.k)
      rw [lucN_s] at this
      rw [nI_1]
      by_cases z : playS H k 1 (H 9 p) = 0
      · rw [if_pos z] at this; rw [if_pos z]
        refine rr_t rfl (X_weight (hX.xk (g1.tr f.k)) ok (by omega) hv ?_)
        rw [lN_add]; exact this
      · rw [if_neg z, Nat.add_zero] at this; rw [if_neg z]
        exact rr_f (by decide) this
