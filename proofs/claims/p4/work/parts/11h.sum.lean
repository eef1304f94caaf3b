/-! ===== sum, first ===== -/
def lastS (P : PL) : Nat → Nat := itr (fun t s => if s < P 0 t - 1 then P 0 t - 1 else s) 0
def crosN (P : PL) : Nat → Nat := sumN (fun t => if P 1 t = 3 then 1 else 0)
theorem X_lastOver {q : Int32 → DD → Prop} {d : DD} {b : Nat} {H : HH} {P : PL} (Hb : isH b) (hX : XH b d H) (ok : OKH H) (hI : Pinv H 160 P) (hE : XE d H P) (h : q (nI (lastS P (nT H))) d) : Cn SX MX1_lastOver [.ref 38, .ref b] d (rI q) := by
  have o4 := ok.t4
  refine cn_X1_lastOver Hb ?_
  rw [li_0]
  refine for_up (W := fun k d' => Ev SX MX1_lastOver 4 [.ref 38, .ref b, .int (nI (lastS P k)), .int (nI k)] [] d' (rI q)) (I := fun k d' => d' = d ∧ lastS P k < 2 ^ 30) (nT H) ?_ ?_ 0 d (Nat.zero_le _) ⟨rfl, show (0 : Nat) < 2 ^ 30 by decide⟩
  · rintro d' ⟨rfl, _⟩
    refine bk_X1_lastOver_4 Hb ⟨fun _ => h, fun c => absurd ?_ c⟩
    rw [hX.nt]; exact nI_le (Nat.le_refl _) (by omega)
  · rintro k d' hk ⟨rfl, hl⟩ ih
    have b0 := (hI.2.2.1 k hk).1
    have e : lastS P (k + 1) = if lastS P k < P 0 k - 1 then P 0 k - 1 else lastS P k := rfl
    refine bk_X1_lastOver_4 Hb ⟨fun c => ?_, fun _ => ⟨vp_in_nI (by omega) (by omega), nm_e ?_⟩⟩
    · rw [hX.nt] at c; exact absurd ((nI_leI (by omega) (by omega)).mp c) (by omega)
    · rw [nI_clamp (by omega), (hE.1 k hk).2.1, nI_1]
      have := ih d' ⟨rfl, by rw [e]; split <;> omega⟩
      rw [e] at this
      by_cases z : lastS P k < P 0 k - 1
      · rw [if_pos z] at this; rw [if_pos ((nI_ltI (by omega) (by omega)).mpr z)]; exact this
      · rw [if_neg z] at this; rw [if_neg (mt (nI_ltI (by omega) (by omega)).mp z)]; exact this
theorem X_crossedTunes {q : Int32 → DD → Prop} {d : DD} {b : Nat} {H : HH} {P : PL} (Hb : isH b) (hX : XH b d H) (ok : OKH H) (hI : Pinv H 160 P) (hE : XE d H P) (h : q (nI (crosN P (nT H))) d) : Cn SX MX1_crossedTunes [.ref 38, .ref b] d (rI q) := by
  have o4 := ok.t4
  refine cn_X1_crossedTunes Hb ?_
  rw [li_0]
  refine for_up (W := fun k d' => Ev SX MX1_crossedTunes 4 [.ref 38, .ref b, .int (nI (crosN P k)), .int (nI k)] [] d' (rI q)) (I := fun k d' => d' = d) (nT H) ?_ ?_ 0 d (Nat.zero_le _) rfl
  · rintro d' rfl
    refine bk_X1_crossedTunes_4 Hb ⟨fun _ => h, fun c => absurd ?_ c⟩
    rw [hX.nt]; exact nI_le (Nat.le_refl _) (by omega)
  · rintro k d' hk rfl ih
    have b1 := (hI.2.2.1 k hk).2
    have e : crosN P (k + 1) = crosN P k + (if P 1 k = 3 then 1 else 0) := rfl
    refine bk_X1_crossedTunes_4 Hb ⟨fun c => ?_, fun _ => ⟨vp_in_nI (by omega) (by omega), ?_⟩⟩
    · rw [hX.nt] at c; exact absurd ((nI_leI (by omega) (by omega)).mp c) (by omega)
    · rw [nI_clamp (by omega), (hE.1 k hk).2.2.1, nI_1, nI_1]
      have := ih d' rfl
      rw [e] at this
      refine ⟨fun c => ?_, fun c => ?_⟩
      · rw [if_neg (fun z => c (by rw [z]; rfl))] at this; exact this
      · rw [li_3] at c; rw [if_pos (nI_inj (by omega) (by omega) c)] at this; exact this
def sumV (H : HH) (P : PL) (w : Nat) : Nat := if w = 0 then awayS H P else if w = 1 then costS H P else if w = 2 then lastS P (nT H) else crosN P (nT H)
theorem M_sum_25 {q : Int32 → DD → Prop} {d : DD} {H : HH} {P : PL} {w : Nat} (hM : MH 0 d H) (ok : OKH H) (hI : Pinv H 160 P) (hE : ME d H P) (hw : w < 4) (h : q (nI (sumV H P w)) d) : Ev SM MX5_sum 25 [.ref 0, .int (nI w), .int (nI 0), .int (nI 0), .int (nI 0)] [] d (rI q) := by
  have o4 := ok.t4
  refine for_up (W := fun k d' => Ev SM MX5_sum 25 [.ref 0, .int (nI w), .int (nI (lastS P k)), .int (nI (crosN P k)), .int (nI k)] [] d' (rI q)) (I := fun k d' => d' = d ∧ lastS P k < 2 ^ 30) (nT H) ?_ ?_ 0 d (Nat.zero_le _) ⟨rfl, show (0 : Nat) < 2 ^ 30 by decide⟩
  · rintro d' ⟨rfl, _⟩
    refine bk_X5_sum_25 ⟨fun _ => ?_, fun c => absurd ?_ c⟩
    · rcases (show w = 0 ∨ w = 1 ∨ w = 2 ∨ w = 3 by omega) with rfl | rfl | rfl | rfl
      · exact rr_t rfl (M_away hM ok hI hE (M_awayBits ok h))
      · exact rr_f (by decide) (rr_t rfl (M_cost hM ok hE h))
      · exact rr_f (by decide) (rr_f (by decide) (rr_t rfl h))
      · exact rr_f (by decide) (rr_f (by decide) (rr_f (by decide) h))
    · rw [hM.nt]; exact nI_le (Nat.le_refl _) (by omega)
  · rintro k d' hk ⟨rfl, hl⟩ ih
    have b0 := (hI.2.2.1 k hk).1
    have b1 := (hI.2.2.1 k hk).2
    have e : lastS P (k + 1) = if lastS P k < P 0 k - 1 then P 0 k - 1 else lastS P k := rfl
    have ec : crosN P (k + 1) = crosN P k + (if P 1 k = 3 then 1 else 0) := rfl
    have i4 : vp_in (nI k) 4 := vp_in_nI (by omega) (by omega)
    have fin : ∀ l2 : Nat, Ev SM MX5_sum 56 [.ref 0, .int (nI w), .int (nI l2), .int (nI (crosN P k)), .int (nI k)] [.int (nI (lastS P (k + 1)))] d' (rI q) := by
      intro l2
      refine bk_X5_sum_56 ⟨i4, ?_⟩
      rw [nI_clamp (by omega), (hE.1 k hk).2.2.1, nI_1, nI_1, show nI (crosN P k) + 0 = nI (crosN P k + 0) from nI_add _ 0]
      have := ih d' ⟨rfl, by rw [e]; split <;> omega⟩
      rw [ec] at this
      refine ⟨fun c => ?_, fun c => ?_⟩
      · rw [if_neg (fun z => c (by rw [z]; rfl))] at this; exact this
      · rw [li_3] at c; rw [if_pos (nI_inj (by omega) (by omega) c)] at this; exact this
    refine bk_X5_sum_25 ⟨fun c => ?_, fun _ => ⟨i4, ?_⟩⟩
    · rw [hM.nt] at c; exact absurd ((nI_leI (by omega) (by omega)).mp c) (by omega)
    · rw [nI_clamp (by omega), (hE.1 k hk).2.1]
      refine ⟨fun c => ?_, fun c => ⟨i4, ?_⟩⟩
      · have c := (nI_leI (by omega) (by omega)).mp c
        have := fin (lastS P k)
        rw [e, if_neg (by omega)] at this
        exact this
      · have c : lastS P k < P 0 k - 1 := by
          rcases Nat.lt_or_ge (lastS P k) (P 0 k - 1) with z | z
          · exact z
          · exact absurd ((nI_leI (by omega) (by omega)).mpr z) c
        have := fin (lastS P k)
        rw [e, if_pos c] at this
        exact this
theorem two_sum {x m : DD} {H : HH} {p0 : Int32} (hR : RelH H x m) : Two MX4_sum MX5_sum [.ref 0, .int p0] x m := by
  obtain ⟨ok, hX, hM, hO⟩ := id hR
  rcases ge_of (n := 4) (v := p0) (by omega) with ⟨w, hw, rfl⟩ | hz
  · refine two_ask hR (nI (sumV H (playS H 0) w)) (cn_X4_sum (X_win_y (n := 3) (by omega) (by omega) (y1 (X_run (sil := 0) isH1 hX ok (by omega) fun d' f e => ?_)))) (cn_X5_sum (M_win_y (n := 3) (by omega) (by omega) (y1 (M_playing hM ok hO.sil (by omega) fun d' f e => ?_))))
    · have hX' := hX.xk f.k
      rcases (show w = 0 ∨ w = 1 ∨ w = 2 ∨ w = 3 by omega) with rfl | rfl | rfl | rfl
      · exact br_t rfl (X_away isH1 hX' ok (play_inv ok) e ⟨rfl, f.k⟩)
      · exact br_f (by decide) (br_t rfl (X_cost isH1 hX' ok e ⟨rfl, f.k⟩))
      · exact br_f (by decide) (br_f (by decide) (br_t rfl (X_lastOver isH1 hX' ok (play_inv ok) e ⟨rfl, f.k⟩)))
      · exact br_f (by decide) (br_f (by decide) (br_f (by decide) (X_crossedTunes isH1 hX' ok (play_inv ok) e ⟨rfl, f.k⟩)))
    · exact M_sum_25 (hM.mf ok f) ok (play_inv ok) e hw ⟨rfl, f.k⟩
  · exact two_ask hR (-1) (cn_X4_sum (X_win_n (n := 3) (by omega) hz (y0 ⟨rfl, XK.rf⟩))) (cn_X5_sum (M_win_n (n := 3) (by omega) hz (y0 ⟨rfl, MK.rf⟩)))
/-- the first that gets away: 0 none, else its number and 1 -/
def firS (H : HH) (P : PL) : Nat → Nat := itr (fun q s => if P 1 (H 9 q) ≠ 0 ∧ (s = 0 ∨ P 0 (H 9 q) < P 0 (H 9 (s - 1))) then q + 1 else s) 0
theorem firS_s (H : HH) (P : PL) (q : Nat) : firS H P (q + 1) = if P 1 (H 9 q) ≠ 0 ∧ (firS H P q = 0 ∨ P 0 (H 9 q) < P 0 (H 9 (firS H P q - 1))) then q + 1 else firS H P q := rfl
theorem firS_le (H : HH) (P : PL) : ∀ k, firS H P k ≤ k := by
  intro k
  induction k with
  | zero => exact Nat.le_refl _
  | succ k ih => rw [firS_s]; split <;> omega
def mo1 (n : Nat) : Int32 := if n = 0 then -1 else nI (n - 1)
def firV (H : HH) (P : PL) (w : Nat) : Int32 := if firS H P (nB H) = 0 then -4 else if w = 0 then nI (P 0 (H 9 (firS H P (nB H) - 1)) - 1) else nI (firS H P (nB H) - 1)
theorem X_first_27 {q : Int32 → DD → Prop} {d : DD} {H : HH} {P : PL} {w : Nat} (hX : XH 1 d H) (ok : OKH H) (hI : Pinv H 160 P) (hE : XE d H P) (hw : w < 2) (h : q (firV H P w) d) : Ev SX MX4_first 27 [.ref 0, .int (nI w), .int (-1), .int (nI 0)] [] d (rI q) := by
  have o6 := ok.b6
  refine for_up (W := fun k d' => Ev SX MX4_first 27 [.ref 0, .int (nI w), .int (mo1 (firS H P k)), .int (nI k)] [] d' (rI q)) (I := fun k d' => d' = d) (nB H) ?_ ?_ 0 d (Nat.zero_le _) rfl
  · rintro d' rfl
    have hle := firS_le H P (nB H)
    refine bk_X4_first_27 ⟨fun _ => ?_, fun c => absurd ?_ c⟩
    · unfold firV at h
      unfold mo1
      by_cases z : firS H P (nB H) = 0
      · rw [if_pos z] at h; rw [if_pos z]
        exact br_f (by decide) h
      · rw [if_neg z] at h; rw [if_neg z]
        refine br_t (by rw [li_0]; exact nI_le (Nat.zero_le _) (by omega)) ?_
        rcases (show w = 0 ∨ w = 1 by omega) with rfl | rfl
        · exact rr_t rfl (X_outAt isH1 hX ok hE (by omega) h)
        · exact rr_f (by decide) h
    · rw [hX.nb]; exact nI_le (Nat.le_refl _) (by omega)
  · rintro k d' hk rfl ih
    have hle := firS_le H P k
    have := ih d' rfl
    rw [firS_s] at this
    refine bk_X4_first_27 ⟨fun c => ?_, fun _ => X_getsAway isH1 hX ok hI hE hk ?_⟩
    · rw [hX.nb] at c; exact absurd ((nI_leI (by omega) (by omega)).mp c) (by omega)
    · rw [nI_1]
      by_cases g : P 1 (H 9 k) = 0
      · rw [if_pos g]
        rw [if_neg (fun z => z.1 g)] at this
        exact y0' this
      · rw [if_neg g]
        refine y1' ?_
        by_cases z : firS H P k = 0
        · rw [if_pos ⟨g, Or.inl z⟩] at this
          unfold mo1 at this ⊢
          rw [if_neg (by omega)] at this
          rw [if_pos z]
          exact br_t (by decide) this
        · have hj := (ok.bb (q := firS H P k - 1) (by omega))
          have b1 := (hI.2.2.1 _ hj).1
          have b2 := (hI.2.2.1 _ (ok.bb hk)).1
          have p1 := (hE.1 _ hj).1
          have p2 := (hE.1 _ (ok.bb hk)).1
          have em : mo1 (firS H P k) = nI (firS H P k - 1) := if_neg z
          rw [em]
          refine br_f (mt (nI_ltI (a := firS H P k - 1) (b := 0) (by omega) (by omega)).mp (by omega)) (X_outAt isH1 hX ok hE hk (X_outAt isH1 hX ok hE (by omega) ⟨fun c => ?_, fun c => ?_⟩))
          · have c := (nI_leI (by omega) (by omega)).mp c
            rw [if_neg (fun y => by rcases y.2 with y | y <;> omega), em] at this
            exact this
          · have c : P 0 (H 9 k) - 1 < P 0 (H 9 (firS H P k - 1)) - 1 := by
              rcases Nat.lt_or_ge (P 0 (H 9 k) - 1) (P 0 (H 9 (firS H P k - 1)) - 1) with y | y
              · exact y
              · exact absurd ((nI_leI (by omega) (by omega)).mpr y) c
            rw [if_pos ⟨g, Or.inr (by omega)⟩] at this
            unfold mo1 at this
            rw [if_neg (by omega)] at this
            exact this
