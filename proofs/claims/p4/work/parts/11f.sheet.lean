/-! ===== sheet, lay ===== -/
theorem X_renew {q : DD → Prop} {d : DD} {b : Nat} {l : Int32} {n : Int32} (Hb : isSh b) (h : ∀ d', (∀ a, a ≠ b → a ≠ b + 1 → d' a = d a) → d' b 0 = 1 → d' b 1 = l → d' b 2 = n → (∀ i, i < 40 → d' (b + 1) i = 0) → q d') : Cn SX MX2_renew [.ref b, .int l, .int n] d (rV q) := by
  refine cn_X2_renew Hb (nm_e (nm_e (nm_e ?_)))
  rw [li_0]
  refine for_up (W := fun k d' => Ev SX MX2_renew 17 [.ref b, .int l, .int n, .int (nI k)] [] d' (rV q)) (I := fun k d' => (∀ a, a ≠ b → a ≠ b + 1 → d' a = d a) ∧ d' b 0 = 1 ∧ d' b 1 = l ∧ d' b 2 = n ∧ ∀ i, i < k → d' (b + 1) i = 0) 40 ?_ ?_ 0 _ (Nat.zero_le _) ⟨fun a h1 h2 => by rw [up_ne a (by omega), up_ne a (by omega), up_ne a (by omega)], by rw [up_n (by omega), up_n (by omega), up_s], by rw [up_n (by omega), up_s], up_s, fun i hi => absurd hi (Nat.not_lt_zero i)⟩
  · rintro d' ⟨b1, b2, b3, b4, b5⟩
    exact bk_X2_renew_17 Hb ⟨fun _ => h d' b1 b2 b3 b4 b5, fun c => absurd (show (40 : Int32) ≤ nI 40 from by decide) c⟩
  · rintro k d' hk ⟨b1, b2, b3, b4, b5⟩ ih
    refine bk_X2_renew_17 Hb ⟨fun c => ?_, fun _ => ⟨vp_in_nI (by omega) (by omega), nm_e ?_⟩⟩
    · rw [li_40] at c; exact absurd ((nI_leI (by omega) (by omega)).mp c) (by omega)
    · rw [nI_clamp (by omega), nI_1]
      refine ih _ ⟨fun a h1 h2 => by rw [up_ne a (by omega)]; exact b1 a h1 h2, by rw [up_n (by omega)]; exact b2, by rw [up_n (by omega)]; exact b3, by rw [up_n (by omega)]; exact b4, fun i hi => ?_⟩
      rw [up_rd]; split
      · rfl
      · exact b5 i (by omega)
theorem M_sheet_56 {q : Int32 → DD → Prop} {d : DD} {k : Nat} {l n : Int32} (hk : k < 4) (h : ∀ d', (∀ a, a ≠ 16 → d' a = d a) → (∀ j, j < 40 * k ∨ 40 * k + 40 ≤ j → d' 16 j = d 16 j) → (∀ i, i < 40 → d' 16 (40 * k + i) = 0) → q 1 d') : Ev SM MX5_sheet 56 [.ref 0, .int (nI k), .int l, .int n, .int (nI 0)] [] d (rI q) := by
  refine for_up (W := fun i d' => Ev SM MX5_sheet 56 [.ref 0, .int (nI k), .int l, .int n, .int (nI i)] [] d' (rI q)) (I := fun i d' => (∀ a, a ≠ 16 → d' a = d a) ∧ (∀ j, j < 40 * k ∨ 40 * k + 40 ≤ j → d' 16 j = d 16 j) ∧ ∀ j, j < i → d' 16 (40 * k + j) = 0) 40 ?_ ?_ 0 d (Nat.zero_le _) ⟨fun _ _ => rfl, fun _ _ => rfl, fun i hi => absurd hi (Nat.not_lt_zero i)⟩
  · rintro d' ⟨b1, b2, b3⟩
    exact bk_X5_sheet_56 ⟨fun _ => h d' b1 b2 b3, fun c => absurd (show (40 : Int32) ≤ nI 40 from by decide) c⟩
  · rintro i d' hi ⟨b1, b2, b3⟩ ih
    refine bk_X5_sheet_56 ⟨fun c => ?_, fun _ => ?_⟩
    · rw [li_40] at c; exact absurd ((nI_leI (by omega) (by omega)).mp c) (by omega)
    · rw [show (40 : Int32) * nI k + nI i = nI (40 * k + i) from by rw [li_40, pk_mul, nI_add]]
      refine ⟨vp_in_nI (by omega) (by omega), nm_e ?_⟩
      rw [nI_clamp (by omega), nI_1]
      refine ih _ ⟨fun a h1 => by rw [up_ne a (by omega)]; exact b1 a h1, fun j hj => by rw [up_n (by omega)]; exact b2 j hj, fun j hj => ?_⟩
      rw [up_rd]; split
      · rfl
      · exact b3 j (by omega)
theorem shB_n {k : Nat} (hk : k < 4) : shB (nI k) = 74 + 2 * k := by unfold shB; rw [nI_clamp (by omega)]
theorem sgn_or (v : Int32) : (∃ n, n < 2 ^ 31 ∧ v = nI n ∧ 0 ≤ v) ∨ ¬ 0 ≤ v := by
  by_cases c : 0 ≤ v
  · obtain ⟨n, hn, e⟩ := nI_of (x := v) (fun z => by have := i_lt.mp z; have := i_le.mp c; omega)
    exact Or.inl ⟨n, hn, e, c⟩
  · exact Or.inr c
theorem two_sheet {x m : DD} {H : HH} {p0 p1 p2 : Int32} (hR : RelH H x m) : Two MX4_sheet MX5_sheet [.ref 0, .int p0, .int p1, .int p2] x m := by
  obtain ⟨ok, hX, hM, hO⟩ := id hR
  rcases ge_of (n := 4) (v := p0) (by omega) with ⟨k, hk, rfl⟩ | hz
  · rcases ge_of (n := 3) (v := p1) (by omega) with ⟨l, hl, rfl⟩ | hz2
    · have i4 : vp_in (nI k) 4 := vp_in_nI (by omega) (by omega)
      by_cases c : p2 ≤ 40
      · rcases sgn_or p2 with ⟨n, hn, rfl, hs⟩ | hs
        · have hn40 : n ≤ 40 := (nI_leI hn (by omega)).mp c
          refine ⟨1, fun d => (∀ a, a ≠ 74 + 2 * k → a ≠ 75 + 2 * k → d a = x a) ∧ d (74 + 2 * k) 0 = 1 ∧ d (74 + 2 * k) 1 = nI l ∧ d (74 + 2 * k) 2 = nI n ∧ ∀ i, i < 40 → d (75 + 2 * k) i = 0, fun d => (∀ a, a ≠ 14 → a ≠ 15 → a ≠ 16 → d a = m a) ∧ d 14 = up m 14 k (nI l) 14 ∧ d 15 = up m 15 k (nI n) 15 ∧ (∀ j, j < 40 * k ∨ 40 * k + 40 ≤ j → d 16 j = m 16 j) ∧ ∀ i, i < 40 → d 16 (40 * k + i) = 0, cn_X4_sheet (X_win_y (n := 3) (by omega) (by omega) (y1' (X_win_y (n := 2) (by omega) (by omega) (y1' (br_t c (br_t hs ⟨i4, fun b9 hb9 e => ?_⟩)))))), cn_X5_sheet (M_win_y (n := 3) (by omega) (by omega) (y1' (M_win_y (n := 2) (by omega) (by omega) (y1' (br_t c (br_t hs ⟨i4, nm_e ⟨i4, nm_e ?_⟩⟩)))))), ?_⟩
          · rw [shB_n hk] at e
            subst e
            exact X_renew hb9 fun d' g1 g2 g3 g4 g5 => ⟨rfl, fun a h1 h2 => g1 a h1 (by omega), g2, g3, g4, fun i hi => by rw [show 75 + 2 * k = 74 + 2 * k + 1 by omega]; exact g5 i hi⟩
          · rw [nI_clamp (by omega)]
            exact M_sheet_56 hk fun d' g1 g2 g3 => ⟨rfl, fun a h1 h2 h3 => by rw [g1 a h3, up_ne a h2, up_ne a h1], by rw [g1 14 (by omega), up_ne 14 (by omega)], by
              rw [g1 15 (by omega)]; funext j
              by_cases z : j = k
              · subst z; rw [up_s, up_s]
              · rw [up_n (by omega), up_n (by omega), up_n (by omega)], fun j hj => by rw [g2 j hj, up_ne 16 (by omega), up_ne 16 (by omega)], g3⟩
          · rintro d d' ⟨a1, a2, a3, a4, a5⟩ ⟨b1, b2, b3, b4, b5⟩
            refine (hR.sheet hk (Or.inr ⟨a2, l, n, (by omega), hn40, a3, by rw [b2, up_s], a4, by rw [b3, up_s], fun i hi => by rw [a5 i (by omega), b5 i (by omega)]⟩) a1 b1 (fun j hj => by rw [b2, up_n (by omega)]) (fun j hj => by rw [b3, up_n (by omega)]) b4).rel
        · exact two_ask hR (-14) (cn_X4_sheet (X_win_y (n := 3) (by omega) (by omega) (y1' (X_win_y (n := 2) (by omega) (by omega) (y1' (br_t c (br_f hs ⟨rfl, XK.rf⟩))))))) (cn_X5_sheet (M_win_y (n := 3) (by omega) (by omega) (y1' (M_win_y (n := 2) (by omega) (by omega) (y1' (br_t c (br_f hs ⟨rfl, MK.rf⟩)))))))
      · exact two_ask hR (-1) (cn_X4_sheet (X_win_y (n := 3) (by omega) (by omega) (y1' (X_win_y (n := 2) (by omega) (by omega) (y1' (br_f c ⟨rfl, XK.rf⟩)))))) (cn_X5_sheet (M_win_y (n := 3) (by omega) (by omega) (y1' (M_win_y (n := 2) (by omega) (by omega) (y1' (br_f c ⟨rfl, MK.rf⟩))))))
    · exact two_ask hR (-1) (cn_X4_sheet (X_win_y (n := 3) (by omega) (by omega) (y1' (X_win_n (n := 2) (by omega) hz2 (y0' ⟨rfl, XK.rf⟩))))) (cn_X5_sheet (M_win_y (n := 3) (by omega) (by omega) (y1' (M_win_n (n := 2) (by omega) hz2 (y0' ⟨rfl, MK.rf⟩)))))
  · exact two_ask hR (-1) (cn_X4_sheet (X_win_n (n := 3) (by omega) hz (y0' ⟨rfl, XK.rf⟩))) (cn_X5_sheet (M_win_n (n := 3) (by omega) hz (y0' ⟨rfl, MK.rf⟩)))
theorem nar8 (v : Int32) : v.toInt8.toInt32 = (v <<< ((24 : Int32) &&& 31)) >>> ((24 : Int32) &&& 31) := by
  refine b_ext fun i hi => ?_
  rw [show ((24 : Int32) &&& 31) = (nI 24 &&& 31) from rfl, b_sshr 24 (by omega) _ hi]
  have e : bt v.toInt8.toInt32 i = if i < 8 then bt v i else bt v 7 := by
    unfold bt
    rw [Int8.toBitVec_toInt32, Int32.toBitVec_toInt8]
    by_cases c : i < 8
    · rw [if_pos c, BitVec.getLsbD_signExtend, if_pos c, BitVec.getLsbD_signExtend, if_pos hi, decide_eq_true hi, decide_eq_true c]; rfl
    · rw [if_neg c, BitVec.getLsbD_signExtend, if_neg c, BitVec.msb_eq_getLsbD_last, BitVec.getLsbD_signExtend, decide_eq_true hi]; rfl
  rw [e]
  split
  · rw [if_pos (by omega), b_shl 24 (by omega) _ (by omega), decide_eq_true (by omega), show 24 + i - 24 = i by omega]; rfl
  · rw [if_neg (by omega), b_shl 24 (by omega) _ (by omega)]; rfl
theorem nar16 (v : Int32) : v.toInt16.toInt32 = (v <<< ((16 : Int32) &&& 31)) >>> ((16 : Int32) &&& 31) := by
  refine b_ext fun i hi => ?_
  rw [show ((16 : Int32) &&& 31) = (nI 16 &&& 31) from rfl, b_sshr 16 (by omega) _ hi]
  have e : bt v.toInt16.toInt32 i = if i < 16 then bt v i else bt v 15 := by
    unfold bt
    rw [Int16.toBitVec_toInt32, Int32.toBitVec_toInt16]
    by_cases c : i < 16
    · rw [if_pos c, BitVec.getLsbD_signExtend, if_pos c, BitVec.getLsbD_signExtend, if_pos hi, decide_eq_true hi, decide_eq_true c]; rfl
    · rw [if_neg c, BitVec.getLsbD_signExtend, if_neg c, BitVec.msb_eq_getLsbD_last, BitVec.getLsbD_signExtend, decide_eq_true hi]; rfl
  rw [e]
  split
  · rw [if_pos (by omega), b_shl 16 (by omega) _ (by omega), decide_eq_true (by omega), show 16 + i - 16 = i by omega]; rfl
  · rw [if_neg (by omega), b_shl 16 (by omega) _ (by omega)]; rfl
/-- has the sheet a cell of this place -/
theorem X_hasCell {q : Int32 → DD → Prop} {d : DD} {b n : Nat} {v : Int64} (Hb : isSh b) (e : d b 2 = nI n) (hn : n < 2 ^ 31) (h1 : ∀ j, j < n → v.toInt = (j : Int) → q 1 d) (h0 : (∀ j, j < n → v.toInt ≠ (j : Int)) → q 0 d) : Cn SX MX2_hasCell [.ref b, .long v] d (rI q) := by
  have e0 : ((0 : Int64)).toInt = 0 := rfl
  have ge : ∀ {x y : Int64}, 0 ≤ lg_cmp x y ↔ y.toInt ≤ x.toInt := by
    intro x y
    have := lcmp_lt (x := x) (y := y)
    constructor
    · intro h; have : ¬ x.toInt < y.toInt := fun z => by have := i_lt.mp (lcmp_lt.mpr z); have := i_le.mp h; omega
      omega
    · intro h; refine i_le.mpr ?_
      have := mt i_lt.mpr (mt lcmp_lt.mp (show ¬ x.toInt < y.toInt by omega))
      omega
  refine cn_X2_hasCell Hb ⟨fun c => ?_, fun c => ?_⟩
  · have c := lcmp_lt.mp c
    exact h0 fun j hj z => by rw [e0] at c; omega
  · have c := mt lcmp_lt.mpr c
    rw [e0] at c
    rw [e, nI_64 hn]
    refine ⟨fun c2 => ?_, fun c2 => ?_⟩
    · have c2 := ge.mp c2
      rw [lN_toInt hn] at c2
      exact h0 fun j hj z => by omega
    · have c2 := mt ge.mpr c2
      rw [lN_toInt hn] at c2
      exact h1 v.toInt.toNat (by omega) (by omega)
