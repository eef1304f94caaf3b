/-! ===== the reference's sums over the sets of strings ===== -/
def avM (H : HH) (P : PL) : Nat := maskN (fun q => decide (P 1 (H 9 q) ≠ 0)) (nB H)
/-- what one set of strings adds -/
def bysT (H : HH) (v : Nat) (e : Option Nat) (c : Nat) : Nat := match e with
  | none => wgt c v (nP H) * awayS H (playS H c)
  | some p => if playS H c 1 (H 9 p) = 0 then wgt c v (nP H) else 0
def bysN (H : HH) (v : Nat) (e : Option Nat) : Nat → Nat := sumN (bysT H v e)
theorem bysN_s {H : HH} {v k : Nat} {e : Option Nat} : bysN H v e (k + 1) = bysN H v e k + bysT H v e k := rfl
theorem bysT_le {H : HH} {v c : Nat} {e : Option Nat} (ok : OKH H) (hv : v ≤ 10) : bysT H v e c ≤ 60000 := by
  have h1 := Nat.le_trans (wgt_le (c := c) hv (nP H)) (ten_le ok.p4).1
  cases e with
  | none => exact Nat.mul_le_mul h1 (awayS_le (P := playS H c) ok)
  | some p =>
    show (if playS H c 1 (H 9 p) = 0 then wgt c v (nP H) else 0) ≤ _
    split <;> omega
theorem bysN_le {H : HH} {v : Nat} {e : Option Nat} (ok : OKH H) (hv : v ≤ 10) (k : Nat) : bysN H v e k ≤ k * 60000 := sumN_le (fun c _ => bysT_le ok hv)
def eI : Option Nat → Int32
  | none => -4
  | some p => nI p
theorem M_bys_52 {q : Int64 → DD → Prop} {d : DD} {H : HH} {v c : Nat} {l2 l3 : Int32} {l4 l6 : Int64} (hM : MH 0 d H) (ok : OKH H) (hv : v ≤ 10) (hc : c < 2 ^ 30) (h : Ev SM MX5_byStrings 52 [.ref 0, .int (nI v), .int l2, .int l3, .long l4, uJ, .long l6, uJ, .int (nI c), .long (lN (wgt c v (nP H))), uJ, .int (nI (nP H))] [] d (rL q)) : Ev SM MX5_byStrings 52 [.ref 0, .int (nI v), .int l2, .int l3, .long l4, uJ, .long l6, uJ, .int (nI c), .long 1, uJ, .int (nI 0)] [] d (rL q) := by
  have o4 := ok.p4
  refine for_up (W := fun k d' => Ev SM MX5_byStrings 52 [.ref 0, .int (nI v), .int l2, .int l3, .long l4, uJ, .long l6, uJ, .int (nI c), .long (lN (wgt c v k)), uJ, .int (nI k)] [] d' (rL q)) (I := fun _ d' => d' = d) (nP H) ?_ ?_ 0 d (Nat.zero_le _) rfl
  · rintro d' rfl
    exact h
  · rintro k d' hk rfl ih
    have := ih d' rfl
    rw [show wgt c v (k + 1) = wgt c v k * (if c.testBit k then v else 10 - v) from rfl] at this
    refine bk_X5_byStrings_52 (br_f ?_ ?_)
    · rw [hM.np]; exact fun z => absurd ((nI_leI (by omega) (by omega)).mp z) (by omega)
    · rw [bit_of (by omega) (by omega), li_10, pk_sub hv, nI_64 (n := 10 - v) (by omega), nI_64 (n := v) (by omega), lN_mul, lN_mul, nI_1]
      cases hb : c.testBit k
      · rw [hb] at this; exact rr_f (by decide) (nm_e this)
      · rw [hb] at this; exact rr_t rfl (nm_e this)
theorem M_bys_9 {q : Int64 → DD → Prop} {d : DD} {H : HH} {l1 l2 l3 : Int32} (hM : MH 0 d H) (ok : OKH H) (h : Ev SM MX5_byStrings 35 [.ref 0, .int l1, .int l2, .int l3, .long 0, uJ, .long (lN (10 ^ nP H)), uJ, .int 0, uJ, uJ, uJ] [] d (rL q)) : Ev SM MX5_byStrings 9 [.ref 0, .int l1, .int l2, .int l3, .long 0, uJ, .long 1, uJ, .int 0, uJ, uJ, uJ] [] d (rL q) := by
  have o4 := ok.p4
  rw [li_0] at h ⊢
  refine for_up (W := fun k d' => Ev SM MX5_byStrings 9 [.ref 0, .int l1, .int l2, .int l3, .long 0, uJ, .long (lN (10 ^ k)), uJ, .int (nI k), uJ, uJ, uJ] [] d' (rL q)) (I := fun _ d' => d' = d) (nP H) ?_ ?_ 0 d (Nat.zero_le _) rfl
  · rintro d' rfl
    refine bk_X5_byStrings_9 (br_t ?_ h)
    rw [hM.np]; exact nI_le (Nat.le_refl _) (by omega)
  · rintro k d' hk rfl ih
    have := ih d' rfl
    rw [Nat.pow_succ] at this
    refine bk_X5_byStrings_9 (br_f ?_ ?_)
    · rw [hM.np]; exact fun z => absurd ((nI_leI (by omega) (by omega)).mp z) (by omega)
    · rw [show (10 : Int64) = lN 10 from rfl, lN_mul, nI_1]; exact this
theorem MK26.en {m d : DD} (h : MK26 m d) (hs : m 0 26 = nI 0) : MK m (up d 0 26 0) := h
theorem M_bys {q : Int64 → DD → Prop} {m : DD} {H : HH} {v w : Nat} {e : Option Nat} (hM : MH 0 m H) (ok : OKH H) (hs0 : m 0 26 = nI 0) (hv : v ≤ 10) (he : ∀ p, e = some p → p < nB H) (hw : w < 2) (h : ∀ d', MK m d' → q (lowV (bysN H v e (2 ^ nP H)) (10 ^ nP H) w) d') : Cn SM MX5_byStrings [.ref 0, .int (nI v), .int (eI e), .int (nI w)] m (rL q) := by
  have o4 := ok.p4
  have o6 := ok.b6
  have hN : 2 ^ nP H ≤ 16 := Nat.le_trans (Nat.pow_le_pow_right (by decide) o4) (by decide)
  have ht := ten_le o4
  refine cn_X5_byStrings (M_bys_9 hM ok ?_)
  rw [li_0, show (0 : Int64) = lN 0 from rfl]
  refine for_up (W := fun k d' => Ev SM MX5_byStrings 35 [.ref 0, .int (nI v), .int (eI e), .int (nI w), .long (lN (bysN H v e k)), uJ, .long (lN (10 ^ nP H)), uJ, .int (nI k), uJ, uJ, uJ] [] d' (rL q)) (I := fun _ d' => MK26 m d') (2 ^ nP H) ?_ ?_ 0 m (Nat.zero_le _) (MK26.of MK.rf hs0)
  · intro d' g1
    have hl := bysN_le (v := v) (e := e) ok hv (2 ^ nP H)
    have hM1 := hM.mk26 ok g1 (v := 0)
    have hnp : d' 0 2 = nI (nP H) := by have := hM1.np; rw [up_n (by omega)] at this; exact this
    refine bk_X5_byStrings_35 (br_t ?_ (nm_e ?_))
    · rw [hnp, shl1 (by omega)]; exact nI_le (Nat.le_refl _) (by omega)
    · exact M_lowest (by omega) (by omega) ht.2 hw (h _ g1)
  · intro k d' hk g1 ih
    have hM1 := fun v => hM.mk26 ok g1 (v := v)
    have hnp : d' 0 2 = nI (nP H) := by have := (hM1 0).np; rw [up_n (by omega)] at this; exact this
    have hM0 : MH 0 d' H := by
      have := hM1 (d' 0 26)
      have ee : up d' 0 26 (d' 0 26) = d' := by
        funext a j
        rw [up_rd]; split
        · rename_i z; rw [z.1, z.2]
        · rfl
      rw [ee] at this; exact this
    refine bk_X5_byStrings_35 (br_f ?_ ?_)
    · rw [hnp, shl1 (by omega)]; exact fun c => absurd ((nI_leI (by omega) (by omega)).mp c) (by omega)
    rw [li_0]
    refine M_bys_52 hM0 ok hv (by omega) (bk_X5_byStrings_52 (br_t ?_ (nm_e (M_awayMany (sil := k) (hM1 (nI k)) ok up_s (by omega) fun d2 f e2 => ?_))))
    · rw [hnp]; exact nI_le (Nat.le_refl _) (by omega)
    · have nx := ih d2 (g1.st f)
      rw [bysN_s] at nx
      have hM2 := (hM1 (nI k)).mf ok f
      have ha := awayS_le (P := playS H k) ok
      cases e with
      | none =>
        refine rr_t rfl (nm_e ?_)
        rw [nI_64 (n := awayS H (playS H k)) (by omega), lN_mul, lN_add, nI_1]
        exact nx
      | some p =>
        have hp := he p rfl
        refine rr_f (ne_m4 (by omega)) (M_away hM2 ok (play_inv ok) e2 (nm_e ?_))
        have hm := mask64 (p := fun q => decide (playS H k 1 (H 9 q) ≠ 0)) o6
        show Ev SM MX5_byStrings 35 [.ref 0, .int (nI v), .int (eI (some p)), .int (nI w), .long (lN (bysN H v (some p) k) + lN (wgt k v (nP H)) * (1 - ((nI (maskN (fun q => decide (playS H k 1 (H 9 q) ≠ 0)) (nB H)) >>> (nI p &&& 31)) &&& 1)).toInt64), uJ, .long (lN (10 ^ nP H)), uJ, .int (nI k + 1), uJ, uJ, uJ] [] d2 (rL q)
        rw [bit_of (by omega) (by omega), maskN_bit, decide_eq_true hp, Bool.true_and, nI_1]
        have nx2 : Ev SM MX5_byStrings 35 [.ref 0, .int (nI v), .int (eI (some p)), .int (nI w), .long (lN (bysN H v (some p) k + (if playS H k 1 (H 9 p) = 0 then wgt k v (nP H) else 0))), uJ, .long (lN (10 ^ nP H)), uJ, .int (nI (k + 1)), uJ, uJ, uJ] [] d2 (rL q) := nx
        by_cases z : playS H k 1 (H 9 p) = 0
        · rw [if_pos z] at nx2
          rw [decide_eq_false (fun c => c z)]
          rw [show ((1 : Int32) - (if false = true then 1 else 0)).toInt64 = lN 1 from rfl, lN_mul, lN_add, Nat.mul_one]
          exact nx2
        · rw [if_neg z] at nx2
          rw [decide_eq_true z]
          rw [show ((1 : Int32) - (if true = true then 1 else 0)).toInt64 = lN 0 from rfl, lN_mul, lN_add, Nat.mul_zero]
          exact nx2
/-- one call on both, of a long answer -/
def TwoL (M1 M2 : MM) (As : List Value) (x m : DD) : Prop := ∃ (r : Int64) (PX PM : DD → Prop), Cn SX M1 As x (rL fun r' d => r' = r ∧ PX d) ∧ Cn SM M2 As m (rL fun r' d => r' = r ∧ PM d) ∧ ∀ d d', PX d → PM d' → Rel d d'
theorem two_askL {M1 M2 : MM} {As : List Value} {x m : DD} {H : HH} (hR : RelH H x m) (r : Int64) (h1 : Cn SX M1 As x (rL fun r' d => r' = r ∧ XK x d)) (h2 : Cn SM M2 As m (rL fun r' d => r' = r ∧ MK m d)) : TwoL M1 M2 As x m := ⟨r, _, _, h1, h2, fun _ _ a b => (hR.keep a b).rel⟩
theorem two_mean {x m : DD} {H : HH} {p0 p1 : Int32} (hR : RelH H x m) : TwoL MX4_mean MX5_mean [.ref 0, .int p0, .int p1] x m := by
  obtain ⟨ok, hX, hM, hO⟩ := id hR
  rcases ge_of (n := 11) (v := p0) (by omega) with ⟨v, hv, rfl⟩ | hz
  · rcases ge_of (n := 2) (v := p1) (by omega) with ⟨w, hw, rfl⟩ | hz2
    · refine two_askL hR (lowV (meaN H v (2 ^ nP H)) (10 ^ nP H) w) (cn_X4_mean (X_win_y (n := 10) (by omega) (by omega) (y1' (X_win_y (n := 1) (by omega) (by omega) (y1 (X_mean_28 hX ok (by omega) hw (fun d' g => ⟨rfl, g⟩))))))) (cn_X5_mean (M_win_y (n := 10) (by omega) (by omega) (y1' (M_win_y (n := 1) (by omega) (by omega) (y1' (M_bys (e := none) hM ok hO.sil (by omega) (fun p z => nomatch z) hw (fun d' g => ⟨rfl, g⟩)))))))
    · exact two_askL hR (-1) (cn_X4_mean (X_win_y (n := 10) (by omega) (by omega) (y1' (X_win_n (n := 1) (by omega) hz2 (y0 ⟨rfl, XK.rf⟩))))) (cn_X5_mean (M_win_y (n := 10) (by omega) (by omega) (y1' (M_win_n (n := 1) (by omega) hz2 (y0' ⟨rfl, MK.rf⟩)))))
  · exact two_askL hR (-1) (cn_X4_mean (X_win_n (n := 10) (by omega) hz (y0' ⟨rfl, XK.rf⟩))) (cn_X5_mean (M_win_n (n := 10) (by omega) hz (y0' ⟨rfl, MK.rf⟩)))
theorem two_luck {x m : DD} {H : HH} {p0 p1 p2 : Int32} (hR : RelH H x m) : TwoL MX4_luck MX5_luck [.ref 0, .int p0, .int p1, .int p2] x m := by
  obtain ⟨ok, hX, hM, hO⟩ := id hR
  have o6 := ok.b6
  rcases ge_of (n := 11) (v := p0) (by omega) with ⟨v, hv, rfl⟩ | hz
  · rcases ge_of (n := nB H) (v := p1) (by omega) with ⟨p, hp, rfl⟩ | hz3
    · rcases ge_of (n := 2) (v := p2) (by omega) with ⟨w, hw, rfl⟩ | hz2
      · refine two_askL hR (lowV (lucN H v p (2 ^ nP H)) (10 ^ nP H) w) (cn_X4_luck (X_win_y (n := 10) (by omega) (by omega) (y1' (X_hasPrisoner_y isH1 hX ok hp (y1' (X_win_y (n := 1) (by omega) (by omega) (y1 (X_luck_40 hX ok (by omega) hp hw (fun d' g => ⟨rfl, g⟩))))))))) (cn_X5_luck (M_win_y (n := 10) (by omega) (by omega) (y1' (M_isBound_y hM ok hp (y1' (M_win_y (n := 1) (by omega) (by omega) (y1' (M_bys (e := some p) hM ok hO.sil (by omega) (fun p' z => by cases z; exact hp) hw (fun d' g => ⟨rfl, g⟩)))))))))
      · exact two_askL hR (-1) (cn_X4_luck (X_win_y (n := 10) (by omega) (by omega) (y1' (X_hasPrisoner_y isH1 hX ok hp (y1' (X_win_n (n := 1) (by omega) hz2 (y0 ⟨rfl, XK.rf⟩))))))) (cn_X5_luck (M_win_y (n := 10) (by omega) (by omega) (y1' (M_isBound_y hM ok hp (y1' (M_win_n (n := 1) (by omega) hz2 (y0' ⟨rfl, MK.rf⟩)))))))
    · exact two_askL hR (-1) (cn_X4_luck (X_win_y (n := 10) (by omega) (by omega) (y1' (X_hasPrisoner_n isH1 hX ok hz3 (y0' ⟨rfl, XK.rf⟩))))) (cn_X5_luck (M_win_y (n := 10) (by omega) (by omega) (y1' (M_isBound_n hM ok hz3 (y0' ⟨rfl, MK.rf⟩)))))
  · exact two_askL hR (-1) (cn_X4_luck (X_win_n (n := 10) (by omega) hz (y0' ⟨rfl, XK.rf⟩))) (cn_X5_luck (M_win_n (n := 10) (by omega) hz (y0' ⟨rfl, MK.rf⟩)))
