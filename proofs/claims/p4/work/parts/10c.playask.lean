/-! ===== what is asked of a playing ===== -/
theorem play_inv {H : HH} {sil : Nat} (ok : OKH H) : Pinv H 160 (playS H sil) := runS_inv ok 160
theorem X_getsAway {q : Int32 → DD → Prop} {d : DD} {b j : Nat} {H : HH} {P : PL} (Hb : isH b) (hX : XH b d H) (ok : OKH H) (hI : Pinv H 160 P) (hE : XE d H P) (hj : j < nB H) (h : q (if P 1 (H 9 j) = 0 then 0 else 1) d) : Cn SX MX1_getsAway [.ref 38, .ref b, .int (nI j)] d (rI q) := by
  have o4 := ok.t4
  have o6 := ok.b6
  have hb := ok.bb hj
  have b1 := (hI.2.2.1 _ hb).2
  refine cn_X1_getsAway Hb ⟨vp_in_nI (by omega) (by omega), ?_⟩
  rw [nI_clamp (by omega), hX.bond hj]
  refine ⟨vp_in_nI (by omega) (by omega), ?_⟩
  rw [nI_clamp (by omega), (hE.1 _ hb).2.2.1]
  refine ⟨fun c => ?_, fun c => ?_⟩
  · rw [li_0] at c; rw [if_pos (nI_inj (by omega) (by omega) c)] at h; exact h
  · rw [if_neg (fun z => c (by rw [z]; rfl))] at h; exact h
theorem X_outAt {q : Int32 → DD → Prop} {d : DD} {b j : Nat} {H : HH} {P : PL} (Hb : isH b) (hX : XH b d H) (ok : OKH H) (hE : XE d H P) (hj : j < nB H) (h : q (nI (P 0 (H 9 j) - 1)) d) : Cn SX MX1_outAt [.ref 38, .ref b, .int (nI j)] d (rI q) := by
  have o4 := ok.t4
  have o6 := ok.b6
  have hb := ok.bb hj
  refine cn_X1_outAt Hb ⟨vp_in_nI (by omega) (by omega), ?_⟩
  rw [nI_clamp (by omega), hX.bond hj]
  refine ⟨vp_in_nI (by omega) (by omega), ?_⟩
  rw [nI_clamp (by omega), (hE.1 _ hb).2.1]
  exact h
theorem awayS_le {H : HH} {P : PL} (ok : OKH H) : awayS H P ≤ 6 := by
  have o6 := ok.b6
  have : awayS H P ≤ nB H * 1 := sumN_le (fun i _ => by split <;> omega)
  omega
theorem X_away {q : Int32 → DD → Prop} {d : DD} {b : Nat} {H : HH} {P : PL} (Hb : isH b) (hX : XH b d H) (ok : OKH H) (hI : Pinv H 160 P) (hE : XE d H P) (h : q (nI (awayS H P)) d) : Cn SX MX1_away [.ref 38, .ref b] d (rI q) := by
  have o6 := ok.b6
  refine cn_X1_away Hb ?_
  rw [li_0]
  refine for_up (W := fun k d' => Ev SX MX1_away 4 [.ref 38, .ref b, .int (nI (sumN (fun q => if P 1 (H 9 q) = 0 then 0 else 1) k)), .int (nI k)] [] d' (rI q)) (I := fun k d' => d' = d) (nB H) ?_ ?_ 0 d (Nat.zero_le _) rfl
  · rintro d' rfl
    refine bk_X1_away_4 Hb ⟨fun _ => h, fun c => absurd ?_ c⟩
    rw [hX.nb]; exact nI_le (Nat.le_refl _) (by omega)
  · rintro k d' hk rfl ih
    have e : sumN (fun q => if P 1 (H 9 q) = 0 then 0 else 1) (k + 1) = sumN (fun q => if P 1 (H 9 q) = 0 then 0 else 1) k + (if P 1 (H 9 k) = 0 then 0 else 1) := rfl
    have := ih d' rfl
    rw [e] at this
    refine bk_X1_away_4 Hb ⟨fun c => ?_, fun _ => X_getsAway Hb hX ok hI hE hk ?_⟩
    · rw [hX.nb] at c; exact absurd ((nI_leI (by omega) (by omega)).mp c) (by omega)
    · rw [nI_1, nI_1]
      split
      · rename_i z; rw [if_pos z] at this; exact ⟨fun _ => this, fun c => absurd rfl c⟩
      · rename_i z; rw [if_neg z] at this; exact ⟨fun c => absurd c (by decide), fun _ => this⟩
theorem X_cost {q : Int32 → DD → Prop} {d : DD} {b : Nat} {H : HH} {P : PL} (Hb : isH b) (hX : XH b d H) (ok : OKH H) (hE : XE d H P) (h : q (nI (costS H P)) d) : Cn SX MX1_cost [.ref 38, .ref b] d (rI q) := by
  have o4 := ok.p4
  refine cn_X1_cost Hb ?_
  rw [li_0]
  refine for_up (W := fun k d' => Ev SX MX1_cost 4 [.ref 38, .ref b, .int (nI (sumN (fun p => P 4 p * H 7 p) k)), .int (nI k)] [] d' (rI q)) (I := fun k d' => d' = d) (nP H) ?_ ?_ 0 d (Nat.zero_le _) rfl
  · rintro d' rfl
    refine bk_X1_cost_4 Hb ⟨fun _ => h, fun c => absurd ?_ c⟩
    rw [hX.np]; exact nI_le (Nat.le_refl _) (by omega)
  · rintro k d' hk rfl ih
    refine bk_X1_cost_4 Hb ⟨fun c => ?_, fun _ => ⟨vp_in_nI (by omega) (by omega), vp_in_nI (by omega) (by omega), nm_e ?_⟩⟩
    · rw [hX.np] at c; exact absurd ((nI_leI (by omega) (by omega)).mp c) (by omega)
    · rw [nI_clamp (by omega), hE.2 k hk, hX.pay hk, pk_mul, nI_add, nI_1]
      exact ih d' rfl
theorem M_away {q : Int32 → DD → Prop} {d : DD} {H : HH} {P : PL} (hM : MH 0 d H) (ok : OKH H) (hI : Pinv H 160 P) (hE : ME d H P) (h : q (nI (maskN (fun q => decide (P 1 (H 9 q) ≠ 0)) (nB H))) d) : Cn SM MX5_away [.ref 0] d (rI q) := by
  have o4 := ok.t4
  have o6 := ok.b6
  refine cn_X5_away ?_
  rw [li_0]
  refine for_up (W := fun k d' => Ev SM MX5_away 4 [.ref 0, .int (nI (maskN (fun q => decide (P 1 (H 9 q) ≠ 0)) k)), .int (nI k)] [] d' (rI q)) (I := fun k d' => d' = d) (nB H) ?_ ?_ 0 d (Nat.zero_le _) rfl
  · rintro d' rfl
    refine bk_X5_away_4 ⟨fun _ => h, fun c => absurd ?_ c⟩
    rw [hM.nb]; exact nI_le (Nat.le_refl _) (by omega)
  · rintro k d' hk rfl ih
    have hb := ok.bb hk
    have b1 := (hI.2.2.1 _ hb).2
    have e : maskN (fun q => decide (P 1 (H 9 q) ≠ 0)) (k + 1) = maskN (fun q => decide (P 1 (H 9 q) ≠ 0)) k + (if decide (P 1 (H 9 k) ≠ 0) = true then 2 ^ k else 0) := rfl
    have := ih d' rfl
    rw [e] at this
    refine bk_X5_away_4 ⟨fun c => ?_, fun _ => ?_⟩
    · rw [hM.nb] at c; exact absurd ((nI_leI (by omega) (by omega)).mp c) (by omega)
    · rw [show (64 : Int32) + nI k = nI (64 + k) from nI_add 64 k]
      refine ⟨vp_in_nI (by omega) (by omega), ?_⟩
      rw [nI_clamp (by omega), hM.bond hk]
      refine ⟨vp_in_nI (by omega) (by omega), ?_⟩
      rw [nI_clamp (by omega), (hE.1 _ hb).2.2.1, nI_1, shl1 (by omega), mask_or (by omega), show nI (maskN (fun q => decide (P 1 (H 9 q) ≠ 0)) k) ||| 0 = nI (maskN (fun q => decide (P 1 (H 9 q) ≠ 0)) k) from by rw [li_0, fa_or]; simp]
      refine ⟨fun c => ?_, fun c => nm_e ?_⟩
      · rw [li_0] at c
        have c := nI_inj (by omega) (by omega) c
        rw [if_neg (by simp [c]), Nat.add_zero] at this
        exact this
      · rw [if_pos (by simp only [decide_eq_true_eq]; exact fun z => c (by rw [z]; rfl))] at this
        exact this
def bitsN (a : Nat) : Nat → Nat := sumN (fun k => if a.testBit k then 1 else 0)
theorem M_bitsOf {q : Int32 → DD → Prop} {d : DD} {a : Nat} (ha : a < 2 ^ 31) (h : q (nI (bitsN a 6)) d) : Cn SM MX5_bitsOf [.int (nI a)] d (rI q) := by
  refine cn_X5_bitsOf ?_
  rw [li_0]
  refine for_up (W := fun k d' => Ev SM MX5_bitsOf 4 [.int (nI a), .int (nI (bitsN a k)), .int (nI k)] [] d' (rI q)) (I := fun k d' => d' = d) 6 ?_ ?_ 0 d (Nat.zero_le _) rfl
  · rintro d' rfl
    exact bk_X5_bitsOf_4 ⟨fun _ => h, fun c => absurd (show (6 : Int32) ≤ nI 6 from by decide) c⟩
  · rintro k d' hk rfl ih
    have e : bitsN a (k + 1) = bitsN a k + (if a.testBit k then 1 else 0) := rfl
    have := ih d' rfl
    rw [e] at this
    refine bk_X5_bitsOf_4 ⟨fun c => ?_, fun _ => nm_e ?_⟩
    · rw [li_6] at c; exact absurd ((nI_leI (by omega) (by omega)).mp c) (by omega)
    · rw [bit_of ha (by omega), show (if a.testBit k = true then (1 : Int32) else 0) = nI (if a.testBit k = true then 1 else 0) from by split <;> rfl, nI_add, nI_1]
      exact this
theorem bitsN_mask {p : Nat → Bool} {n : Nat} : ∀ k, n ≤ k → bitsN (maskN p n) k = sumN (fun q => if p q then 1 else 0) n := by
  have low : ∀ k, k ≤ n → bitsN (maskN p n) k = sumN (fun q => if p q then 1 else 0) k := by
    intro k hk
    unfold bitsN
    refine sumN_cong (fun i hi => ?_)
    rw [maskN_bit, decide_eq_true (show i < n by omega), Bool.true_and]
  intro k
  induction k with
  | zero => intro h; exact (low 0 (by omega)).trans (by rw [show n = 0 by omega])
  | succ k ih =>
    intro h
    by_cases z : n = k + 1
    · rw [← z]; exact low n (Nat.le_refl _)
    · show bitsN (maskN p n) k + (if (maskN p n).testBit k = true then 1 else 0) = _
      rw [ih (by omega), maskN_bit, decide_eq_false (show ¬ k < n by omega)]
      rfl
theorem away_bits {H : HH} {P : PL} (ok : OKH H) : bitsN (maskN (fun q => decide (P 1 (H 9 q) ≠ 0)) (nB H)) 6 = awayS H P := by
  rw [bitsN_mask 6 ok.b6]
  unfold awayS
  refine sumN_cong (fun i _ => ?_)
  by_cases c : P 1 (H 9 i) = 0
  · rw [if_neg (by simp [c]), if_pos c]
  · rw [if_pos (by simp [c]), if_neg c]
theorem mask64 {p : Nat → Bool} {n : Nat} (h : n ≤ 6) : maskN p n < 64 := Nat.lt_of_lt_of_le (maskN_lt p n) (Nat.pow_le_pow_right (by decide) h)
theorem M_awayBits {q : Int32 → DD → Prop} {d : DD} {H : HH} {P : PL} (ok : OKH H) (h : q (nI (awayS H P)) d) : Cn SM MX5_bitsOf [.int (nI (maskN (fun q => decide (P 1 (H 9 q) ≠ 0)) (nB H)))] d (rI q) := by
  have := mask64 (p := fun q => decide (P 1 (H 9 q) ≠ 0)) ok.b6
  exact M_bitsOf (by omega) (by rw [away_bits ok]; exact h)
theorem M_awayMany {q : Int32 → DD → Prop} {d : DD} {sil : Nat} {H : HH} (hM : MH 0 d H) (ok : OKH H) (hs : d 0 26 = nI sil) (hsl : sil < 2 ^ 30) (h : ∀ d', MF d d' → ME d' H (playS H sil) → q (nI (awayS H (playS H sil))) d') : Cn SM MX5_awayMany [.ref 0] d (rI q) := by
  refine cn_X5_awayMany (M_playing hM ok hs hsl fun d' f e => ?_)
  exact M_away (hM.mf ok f) ok (play_inv ok) e (M_awayBits ok (h d' f e))
theorem M_cost {q : Int32 → DD → Prop} {d : DD} {H : HH} {P : PL} (hM : MH 0 d H) (ok : OKH H) (hE : ME d H P) (h : q (nI (costS H P)) d) : Cn SM MX5_cost [.ref 0] d (rI q) := by
  have o4 := ok.p4
  refine cn_X5_cost ?_
  rw [li_0]
  refine for_up (W := fun k d' => Ev SM MX5_cost 4 [.ref 0, .int (nI (sumN (fun p => P 4 p * H 7 p) k)), .int (nI k)] [] d' (rI q)) (I := fun k d' => d' = d) (nP H) ?_ ?_ 0 d (Nat.zero_le _) rfl
  · rintro d' rfl
    refine bk_X5_cost_4 ⟨fun _ => h, fun c => absurd ?_ c⟩
    rw [hM.np]; exact nI_le (Nat.le_refl _) (by omega)
  · rintro k d' hk rfl ih
    refine bk_X5_cost_4 ⟨fun c => ?_, fun _ => ⟨vp_in_nI (by omega) (by omega), ?_⟩⟩
    · rw [hM.np] at c; exact absurd ((nI_leI (by omega) (by omega)).mp c) (by omega)
    · rw [show (56 : Int32) + nI k = nI (56 + k) from nI_add 56 k]
      refine ⟨vp_in_nI (by omega) (by omega), nm_e ?_⟩
      rw [nI_clamp (by omega), nI_clamp (by omega), hE.2.1 k hk, hM.pay hk, pk_mul, nI_add, nI_1]
      exact ih d' rfl
