theorem rr_t {c A B : Prop} (h : c) (b : B) : (¬ c → A) ∧ (c → B) := ⟨fun z => absurd h z, fun _ => b⟩
theorem rr_f {c A B : Prop} (h : ¬ c) (a : A) : (¬ c → A) ∧ (c → B) := ⟨fun _ => a, fun z => absurd z h⟩
theorem lit_ne {a b : Nat} (ha : a < 2 ^ 31) (hb : b < 2 ^ 31) (h : a ≠ b) : ¬ nI a = nI b := fun e => h (nI_inj ha hb e)
/-- rule -/
theorem two_rule {x m : DD} {H : HH} {p0 : Int32} (hR : RelH H x m) : Two MX4_rule MX5_rule [.ref 0, .int p0] x m := by
  obtain ⟨ok, hX, hM, hO⟩ := id hR
  by_cases c0 : p0 = 0
  · exact two_ask hR (nI (nT H)) (cn_X4_rule (br_t c0 ⟨hX.nt, XK.rf⟩)) (cn_X5_rule (rr_t c0 ⟨hM.nt, MK.rf⟩))
  · by_cases c1 : p0 = 1
    · exact two_ask hR (nI (nP H)) (cn_X4_rule (br_f c0 (br_t c1 ⟨hX.np, XK.rf⟩))) (cn_X5_rule (rr_f c0 (rr_t c1 ⟨hM.np, MK.rf⟩)))
    · by_cases c2 : p0 = 2
      · exact two_ask hR (nI (nB H)) (cn_X4_rule (br_f c0 (br_f c1 (br_t c2 ⟨hX.nb, XK.rf⟩)))) (cn_X5_rule (rr_f c0 (rr_f c1 (rr_t c2 ⟨hM.nb, MK.rf⟩))))
      · exact two_ask hR (-1) (cn_X4_rule (br_f c0 (br_f c1 (br_f c2 ⟨rfl, XK.rf⟩)))) (cn_X5_rule (rr_f c0 (rr_f c1 (rr_f c2 ⟨rfl, MK.rf⟩))))
theorem two_fault {x m : DD} {H : HH} (hR : RelH H x m) (hf : x 36 2 = m 0 11) : Two MX4_fault MX5_fault [.ref 0] x m := two_ask hR (x 36 2) (cn_X4_fault ⟨rfl, XK.rf⟩) (cn_X5_fault ⟨hf.symm, MK.rf⟩)
/-- one call on both, whatever they answer -/
def TwoA (M1 M2 : MM) (As : List Value) (x m : DD) : Prop := ∃ (PX PM : DD → Prop), Cn SX M1 As x (rI fun _ d => PX d) ∧ Cn SM M2 As m (rI fun _ d => PM d) ∧ ∀ d d', PX d → PM d' → Rel d d'
theorem any_fault {x m : DD} {H : HH} (hR : RelH H x m) : TwoA MX4_fault MX5_fault [.ref 0] x m := ⟨XK x, MK m, cn_X4_fault XK.rf, cn_X5_fault MK.rf, fun _ _ a b => (hR.keep a b).rel⟩
theorem two_torn {x m : DD} {H : HH} (hR : RelH H x m) : Two MX4_torn MX5_torn [.ref 0] x m := two_ask hR (x 0 12) (cn_X4_torn ⟨rfl, XK.rf⟩) (cn_X5_torn ⟨hR.2.2.2.2.2.2.2.2.2.2.symm, MK.rf⟩)
/-! loops that add up -/
theorem X_boundTo {q : Int32 → DD → Prop} {d : DD} {b t : Nat} {H : HH} (Hb : isH b) (hX : XH b d H) (ok : OKH H) (ht : t < nT H) (h : q (nI (maskN (fun q => decide (H 9 q = t)) (nB H))) d) : Cn SX MX0_boundTo [.ref b, .int (nI t)] d (rI q) := by
  have o4 := ok.t4
  have o6 := ok.b6
  refine cn_X0_boundTo Hb ?_
  rw [li_0]
  refine for_up (W := fun k d' => Ev SX MX0_boundTo 4 [.ref b, .int (nI t), .int (nI (maskN (fun q => decide (H 9 q = t)) k)), .int (nI k)] [] d' (rI q)) (I := fun k d' => d' = d) (nB H) ?_ ?_ 0 d (Nat.zero_le _) rfl
  · rintro d' rfl
    refine bk_X0_boundTo_4 Hb ⟨fun _ => h, fun c => absurd ?_ c⟩
    rw [hX.nb]; exact nI_le (Nat.le_refl _) (by omega)
  · rintro k d' hk rfl ih
    have hq := ok.bb hk
    have e : maskN (fun q => decide (H 9 q = t)) (k + 1) = maskN (fun q => decide (H 9 q = t)) k + (if decide (H 9 k = t) = true then 2 ^ k else 0) := rfl
    refine bk_X0_boundTo_4 Hb ⟨fun c => ?_, fun _ => ⟨vp_in_nI (by omega) (by omega), ?_⟩⟩
    · rw [hX.nb] at c; exact absurd ((nI_leI (by omega) (by omega)).mp c) (by omega)
    · rw [nI_clamp (by omega), hX.bond hk, nI_1, shl1 (by omega), mask_or (by omega)]
      refine ⟨fun c => ?_, fun c => nm_e ?_⟩
      · have := ih d' rfl
        rw [e, if_neg (by simp only [decide_eq_true_eq]; exact fun z => c (by rw [z])), Nat.add_zero] at this
        exact this
      · have := ih d' rfl
        rw [e, if_pos (by simp only [decide_eq_true_eq]; exact nI_inj (by omega) (by omega) c)] at this
        exact this
theorem M_boundTo {q : Int32 → DD → Prop} {d : DD} {t : Nat} {H : HH} (hM : MH 0 d H) (ok : OKH H) (ht : t < nT H) (h : q (nI (maskN (fun q => decide (H 9 q = t)) (nB H))) d) : Cn SM MX5_boundTo [.ref 0, .int (nI t)] d (rI q) := by
  have o4 := ok.t4
  have o6 := ok.b6
  refine cn_X5_boundTo ?_
  rw [li_0]
  refine for_up (W := fun k d' => Ev SM MX5_boundTo 4 [.ref 0, .int (nI t), .int (nI (maskN (fun q => decide (H 9 q = t)) k)), .int (nI k)] [] d' (rI q)) (I := fun k d' => d' = d) (nB H) ?_ ?_ 0 d (Nat.zero_le _) rfl
  · rintro d' rfl
    refine bk_X5_boundTo_4 ⟨fun _ => h, fun c => absurd ?_ c⟩
    rw [hM.nb]; exact nI_le (Nat.le_refl _) (by omega)
  · rintro k d' hk rfl ih
    have hq := ok.bb hk
    have e : maskN (fun q => decide (H 9 q = t)) (k + 1) = maskN (fun q => decide (H 9 q = t)) k + (if decide (H 9 k = t) = true then 2 ^ k else 0) := rfl
    refine bk_X5_boundTo_4 ⟨fun c => ?_, fun _ => ?_⟩
    · rw [hM.nb] at c; exact absurd ((nI_leI (by omega) (by omega)).mp c) (by omega)
    · rw [show (64 : Int32) + nI k = nI (64 + k) from nI_add 64 k]
      refine ⟨vp_in_nI (by omega) (by omega), ?_⟩
      rw [nI_clamp (by omega), hM.bond hk, nI_1, shl1 (by omega), mask_or (by omega), show nI (maskN (fun q => decide (H 9 q = t)) k) ||| 0 = nI (maskN (fun q => decide (H 9 q = t)) k) from by rw [li_0, fa_or]; simp]
      refine ⟨fun c => ?_, fun c => nm_e ?_⟩
      · have := ih d' rfl
        rw [e, if_neg (by simp only [decide_eq_true_eq]; exact fun z => c (by rw [z])), Nat.add_zero] at this
        exact this
      · have := ih d' rfl
        rw [e, if_pos (by simp only [decide_eq_true_eq]; exact nI_inj (by omega) (by omega) c)] at this
        exact this
theorem X_allNotes {q : Int32 → DD → Prop} {d : DD} {b : Nat} {H : HH} (Hb : isH b) (hX : XH b d H) (ok : OKH H) (h : q (nI (sumN (fun t => H 1 t) (nT H))) d) : Cn SX MX0_allNotes [.ref b] d (rI q) := by
  have o4 := ok.t4
  refine cn_X0_allNotes Hb ?_
  rw [li_0]
  refine for_up (W := fun k d' => Ev SX MX0_allNotes 4 [.ref b, .int (nI (sumN (fun t => H 1 t) k)), .int (nI k)] [] d' (rI q)) (I := fun k d' => d' = d) (nT H) ?_ ?_ 0 d (Nat.zero_le _) rfl
  · rintro d' rfl
    refine bk_X0_allNotes_4 Hb ⟨fun _ => h, fun c => absurd ?_ c⟩
    rw [hX.nt]; exact nI_le (Nat.le_refl _) (by omega)
  · rintro k d' hk rfl ih
    refine bk_X0_allNotes_4 Hb ⟨fun c => ?_, fun _ => ⟨vp_in_nI (by omega) (by omega), nm_e ?_⟩⟩
    · rw [hX.nt] at c; exact absurd ((nI_leI (by omega) (by omega)).mp c) (by omega)
    · rw [nI_clamp (by omega), hX.notes hk, nI_1, nI_add]
      exact ih d' rfl
theorem M_noteMany {q : Int32 → DD → Prop} {d : DD} {H : HH} (hM : MH 0 d H) (ok : OKH H) (h : q (nI (sumN (fun t => H 1 t) (nT H))) d) : Cn SM MX5_noteMany [.ref 0] d (rI q) := by
  have o4 := ok.t4
  refine cn_X5_noteMany ?_
  rw [li_0]
  refine for_up (W := fun k d' => Ev SM MX5_noteMany 4 [.ref 0, .int (nI (sumN (fun t => H 1 t) k)), .int (nI k)] [] d' (rI q)) (I := fun k d' => d' = d) (nT H) ?_ ?_ 0 d (Nat.zero_le _) rfl
  · rintro d' rfl
    refine bk_X5_noteMany_4 ⟨fun _ => h, fun c => absurd ?_ c⟩
    rw [hM.nt]; exact nI_le (Nat.le_refl _) (by omega)
  · rintro k d' hk rfl ih
    refine bk_X5_noteMany_4 ⟨fun c => ?_, fun _ => ?_⟩
    · rw [hM.nt] at c; exact absurd ((nI_leI (by omega) (by omega)).mp c) (by omega)
    · rw [show (4 : Int32) + nI k = nI (4 + k) from nI_add 4 k]
      refine ⟨vp_in_nI (by omega) (by omega), nm_e ?_⟩
      rw [nI_clamp (by omega), hM.notes hk, nI_1, nI_add]
      exact ih d' rfl
theorem X_allLengths {q : Int32 → DD → Prop} {d : DD} {b : Nat} {H : HH} (Hb : isH b) (hX : XH b d H) (ok : OKH H) (h : q (nI (sumN (lenO H) (nT H))) d) : Cn SX MX0_allLengths [.ref b] d (rI q) := by
  have o4 := ok.t4
  refine cn_X0_allLengths Hb ?_
  rw [li_0]
  refine for_up (W := fun k d' => Ev SX MX0_allLengths 4 [.ref b, .int (nI (sumN (lenO H) k)), .int (nI k)] [] d' (rI q)) (I := fun k d' => d' = d) (nT H) ?_ ?_ 0 d (Nat.zero_le _) rfl
  · rintro d' rfl
    refine bk_X0_allLengths_4 Hb ⟨fun _ => h, fun c => absurd ?_ c⟩
    rw [hX.nt]; exact nI_le (Nat.le_refl _) (by omega)
  · rintro k d' hk rfl ih
    refine bk_X0_allLengths_4 Hb ⟨fun c => ?_, fun _ => ⟨vp_in_nI (by omega) (by omega), ?_⟩⟩
    · rw [hX.nt] at c; exact absurd ((nI_leI (by omega) (by omega)).mp c) (by omega)
    · rw [nI_clamp (by omega), hX.kind hk]
      refine X_lengthAs Hb hX ok hk (ok.tt hk).1 ?_
      rw [nI_1, nI_add]
      exact ih d' rfl
/-! tune, note, has, player, bound -/
theorem two_tune {x m : DD} {H : HH} {p0 p1 : Int32} (hR : RelH H x m) : Two MX4_tune MX5_tune [.ref 0, .int p0, .int p1] x m := by
  obtain ⟨ok, hX, hM, hO⟩ := id hR
  have o4 := ok.t4
  rcases ge_of (n := nT H) (v := p0) (by omega) with ⟨t, ht, rfl⟩ | hz
  · have i4 : vp_in (nI t) 4 := vp_in_nI (by omega) (by omega)
    by_cases c0 : p1 = 0
    · refine two_ask hR (nI (H 0 t)) (cn_X4_tune (X_hasTune_y isH1 hX ok ht (y1 (br_t c0 ⟨i4, ?_, XK.rf⟩)))) (cn_X5_tune (M_isTune_y hM ok ht (y1 (br_t c0 ?_))))
      · rw [nI_clamp (by omega)]; exact hX.kind ht
      · subst c0
        rw [show (4 : Int32) * 0 + nI t = nI (0 + t) from by rw [li_4, li_0, pk_mul, nI_add]]
        refine ⟨vp_in_nI (by omega) (by omega), ?_, MK.rf⟩
        rw [nI_clamp (by omega), Nat.zero_add]; exact hM.kind ht
    · by_cases c1 : p1 = 1
      · refine two_ask hR (nI (H 1 t)) (cn_X4_tune (X_hasTune_y isH1 hX ok ht (y1 (br_f c0 (br_t c1 ⟨i4, ?_, XK.rf⟩))))) (cn_X5_tune (M_isTune_y hM ok ht (y1 (br_f c0 (br_t c1 ?_)))))
        · rw [nI_clamp (by omega)]; exact hX.notes ht
        · subst c1
          rw [show (4 : Int32) * 1 + nI t = nI (4 + t) from by rw [li_4, li_1, pk_mul, nI_add]]
          refine ⟨vp_in_nI (by omega) (by omega), ?_, MK.rf⟩
          rw [nI_clamp (by omega)]; exact hM.notes ht
      · by_cases c2 : p1 = 2
        · refine two_ask hR (nI (H 2 t)) (cn_X4_tune (X_hasTune_y isH1 hX ok ht (y1 (br_f c0 (br_f c1 (br_t c2 ⟨i4, ?_, XK.rf⟩)))))) (cn_X5_tune (M_isTune_y hM ok ht (y1 (br_f c0 (br_f c1 (br_t c2 ?_))))))
          · rw [nI_clamp (by omega)]; exact hX.times ht
          · subst c2
            rw [show (4 : Int32) * 2 + nI t = nI (8 + t) from by rw [li_4, li_2, pk_mul, nI_add]]
            refine ⟨vp_in_nI (by omega) (by omega), ?_, MK.rf⟩
            rw [nI_clamp (by omega)]; exact hM.times ht
        · by_cases c3 : p1 = 3
          · refine two_ask hR (nI (H 3 t)) (cn_X4_tune (X_hasTune_y isH1 hX ok ht (y1 (br_f c0 (br_f c1 (br_f c2 (br_t c3 ⟨i4, ?_, XK.rf⟩))))))) (cn_X5_tune (M_isTune_y hM ok ht (y1 (br_f c0 (br_f c1 (br_f c2 (br_t c3 ?_)))))))
            · rw [nI_clamp (by omega)]; exact hX.start ht
            · subst c3
              rw [show (4 : Int32) * 3 + nI t = nI (12 + t) from by rw [li_4, li_3, pk_mul, nI_add]]
              refine ⟨vp_in_nI (by omega) (by omega), ?_, MK.rf⟩
              rw [nI_clamp (by omega)]; exact hM.start ht
          · by_cases c4 : p1 = 4
            · refine two_ask hR (nI (lenO H t)) (cn_X4_tune (X_hasTune_y isH1 hX ok ht (y1 (br_f c0 (br_f c1 (br_f c2 (br_f c3 (br_t c4 ⟨i4, ?_⟩)))))))) (cn_X5_tune (M_isTune_y hM ok ht (y1 (br_f c0 (br_f c1 (br_f c2 (br_f c3 (br_t c4 ?_))))))))
              · rw [nI_clamp (by omega), hX.kind ht]
                exact X_lengthAs isH1 hX ok ht (ok.tt ht).1 ⟨rfl, XK.rf⟩
              · exact M_lengthOf hM ok ht ⟨rfl, MK.rf⟩
            · by_cases c5 : p1 = 5
              · refine two_ask hR (nI (maskN (fun q => decide (H 9 q = t)) (nB H))) (cn_X4_tune (X_hasTune_y isH1 hX ok ht (y1 (br_f c0 (br_f c1 (br_f c2 (br_f c3 (br_f c4 (br_t c5 ?_))))))))) (cn_X5_tune (M_isTune_y hM ok ht (y1 (br_f c0 (br_f c1 (br_f c2 (br_f c3 (br_f c4 (br_t c5 ?_)))))))))
                · exact X_boundTo isH1 hX ok ht ⟨rfl, XK.rf⟩
                · exact M_boundTo hM ok ht ⟨rfl, MK.rf⟩
              · exact two_ask hR (-1) (cn_X4_tune (X_hasTune_y isH1 hX ok ht (y1 (br_f c0 (br_f c1 (br_f c2 (br_f c3 (br_f c4 (br_f c5 ⟨rfl, XK.rf⟩))))))))) (cn_X5_tune (M_isTune_y hM ok ht (y1 (br_f c0 (br_f c1 (br_f c2 (br_f c3 (br_f c4 (br_f c5 ⟨rfl, MK.rf⟩)))))))))
  · exact two_ask hR (-1) (cn_X4_tune (X_hasTune_n isH1 hX ok hz (y0 ⟨rfl, XK.rf⟩))) (cn_X5_tune (M_isTune_n hM ok hz (y0 ⟨rfl, MK.rf⟩)))
theorem two_note {x m : DD} {H : HH} {p0 p1 : Int32} (hR : RelH H x m) : Two MX4_note MX5_note [.ref 0, .int p0, .int p1] x m := by
  obtain ⟨ok, hX, hM, hO⟩ := id hR
  have o4 := ok.t4
  by_cases c : ∃ t i, t < nT H ∧ i < H 1 t ∧ p0 = nI t ∧ p1 = nI i
  · obtain ⟨t, i, ht, hi, rfl, rfl⟩ := c
    have o8 := (ok.tt ht).2.2.1
    refine two_ask hR (nI (H 4 (8 * t + i))) (cn_X4_note (X_hasNote isH1 hX ok (fun t' i' _ _ _ _ => y1 ?_) (fun z => (z t i ht hi rfl rfl).elim))) (cn_X5_note (M_isNote hM ok (fun t' i' _ _ _ _ => y1' ?_) (fun z => (z t i ht hi rfl rfl).elim)))
    · rw [show nI t * 8 + nI i = nI (8 * t + i) from by rw [li_8, pk_mul, nI_add, Nat.mul_comm]]
      refine ⟨vp_in_nI (by omega) (by omega), ?_, XK.rf⟩
      rw [nI_clamp (by omega)]; exact hX.score ht hi
    · rw [show 16 + (8 * nI t) + nI i = nI (16 + (8 * t + i)) from by rw [li_8, li_16, pk_mul, nI_add, nI_add, Nat.add_assoc]]
      refine ⟨vp_in_nI (by omega) (by omega), ?_, MK.rf⟩
      rw [nI_clamp (by omega)]; exact hM.score ht hi
  · exact two_ask hR (-1) (cn_X4_note (X_hasNote isH1 hX ok (fun t i h1 h2 h3 h4 => absurd ⟨t, i, h1, h2, h3, h4⟩ c) (fun _ => y0 ⟨rfl, XK.rf⟩))) (cn_X5_note (M_isNote hM ok (fun t i h1 h2 h3 h4 => absurd ⟨t, i, h1, h2, h3, h4⟩ c) (fun _ => y0' ⟨rfl, MK.rf⟩)))
theorem two_has {x m : DD} {H : HH} {p0 p1 : Int32} (hR : RelH H x m) : Two MX4_has MX5_has [.ref 0, .int p0, .int p1] x m := by
  obtain ⟨ok, hX, hM, hO⟩ := id hR
  have o4 := ok.t4
  rcases ge_of (n := nT H) (v := p0) (by omega) with ⟨t, ht, rfl⟩ | hz
  · rcases ge_of (n := 160) (v := p1) (by omega) with ⟨w, hw, rfl⟩ | hz2
    · refine two_ask hR (noteB H t (H 0 t) w) (cn_X4_has (X_hasTune_y isH1 hX ok ht (y1' (X_win_y (n := 159) (by omega) (by omega) (y1 ⟨vp_in_nI (by omega) (by omega), ?_⟩))))) (cn_X5_has (M_isTune_y hM ok ht (y1' (M_isMinute_y hw (y1' ⟨vp_in_nI (by omega) (by omega), ?_⟩)))))
      · rw [nI_clamp (by omega), hX.kind ht]
        exact X_noteAs isH1 hX ok ht (ok.tt ht).1 hw ⟨rfl, XK.rf⟩
      · rw [nI_clamp (by omega), hM.kind ht]
        exact M_noteBy hM ok ht (ok.tt ht).1 hw ⟨rfl, MK.rf⟩
    · exact two_ask hR (-1) (cn_X4_has (X_hasTune_y isH1 hX ok ht (y1' (X_win_n (n := 159) (by omega) hz2 (y0 ⟨rfl, XK.rf⟩))))) (cn_X5_has (M_isTune_y hM ok ht (y1' (M_isMinute_n hz2 (y0' ⟨rfl, MK.rf⟩)))))
  · exact two_ask hR (-1) (cn_X4_has (X_hasTune_n isH1 hX ok hz (y0' ⟨rfl, XK.rf⟩))) (cn_X5_has (M_isTune_n hM ok hz (y0' ⟨rfl, MK.rf⟩)))
theorem two_bound {x m : DD} {H : HH} {p0 : Int32} (hR : RelH H x m) : Two MX4_bound MX5_bound [.ref 0, .int p0] x m := by
  obtain ⟨ok, hX, hM, hO⟩ := id hR
  have o6 := ok.b6
  rcases ge_of (n := nB H) (v := p0) (by omega) with ⟨p, hp, rfl⟩ | hz
  · refine two_ask hR (nI (H 9 p)) (cn_X4_bound (X_hasPrisoner_y isH1 hX ok hp (y1' ⟨vp_in_nI (by omega) (by omega), ?_, XK.rf⟩))) (cn_X5_bound (M_isBound_y hM ok hp (y1' ?_)))
    · rw [nI_clamp (by omega)]; exact hX.bond hp
    · rw [show (64 : Int32) + nI p = nI (64 + p) from nI_add 64 p]
      refine ⟨vp_in_nI (by omega) (by omega), ?_, MK.rf⟩
      rw [nI_clamp (by omega)]; exact hM.bond hp
  · exact two_ask hR (-1) (cn_X4_bound (X_hasPrisoner_n isH1 hX ok hz (y0' ⟨rfl, XK.rf⟩))) (cn_X5_bound (M_isBound_n hM ok hz (y0' ⟨rfl, MK.rf⟩)))
theorem two_player {x m : DD} {H : HH} {p0 p1 : Int32} (hR : RelH H x m) : Two MX4_player MX5_player [.ref 0, .int p0, .int p1] x m := by
  obtain ⟨ok, hX, hM, hO⟩ := id hR
  have o4 := ok.p4
  rcases ge_of (n := nP H) (v := p0) (by omega) with ⟨p, hp, rfl⟩ | hz
  · rcases ge_of (n := 4) (v := p1) (by omega) with ⟨w, hw, rfl⟩ | hz2
    · have i4 : vp_in (nI p) 4 := vp_in_nI (by omega) (by omega)
      have mm : ∀ v : Int32, m 1 (48 + 4 * w + p) = v → Cn SM MX5_player [.ref 0, .int (nI p), .int (nI w)] m (rI fun r' d => r' = v ∧ MK m d) := fun v e => by
        refine cn_X5_player (M_isPlayer_y hM ok hp (y1' (M_win_y (n := 3) (by omega) (by omega) (y1' ?_))))
        rw [show 48 + (4 * nI w) + nI p = nI (48 + 4 * w + p) from by rw [li_4, li_48, pk_mul, nI_add, nI_add]]
        refine ⟨vp_in_nI (by omega) (by omega), ?_, MK.rf⟩
        rw [nI_clamp (by omega)]; exact e
      match w, hw, mm with
      | 0, _, mm =>
        refine two_ask hR (nI (H 5 p)) (cn_X4_player (X_hasPlayer_y isH1 hX ok hp (y1 (br_t rfl ⟨i4, ?_, XK.rf⟩)))) (mm _ (hM.skill hp))
        rw [nI_clamp (by omega)]; exact hX.skill hp
      | 1, _, mm =>
        refine two_ask hR (nI (H 6 p)) (cn_X4_player (X_hasPlayer_y isH1 hX ok hp (y1 (br_f (by decide) (br_t rfl ⟨i4, ?_, XK.rf⟩))))) (mm _ (hM.breath hp))
        rw [nI_clamp (by omega)]; exact hX.breath hp
      | 2, _, mm =>
        refine two_ask hR (nI (H 7 p)) (cn_X4_player (X_hasPlayer_y isH1 hX ok hp (y1 (br_f (by decide) (br_f (by decide) (br_t rfl ⟨i4, ?_, XK.rf⟩)))))) (mm _ (hM.pay hp))
        rw [nI_clamp (by omega)]; exact hX.pay hp
      | 3, _, mm =>
        refine two_ask hR (nI (H 8 p)) (cn_X4_player (X_hasPlayer_y isH1 hX ok hp (y1 (br_f (by decide) (br_f (by decide) (br_f (by decide) (br_t rfl ⟨i4, ?_, XK.rf⟩))))))) (mm _ (hM.at hp))
        rw [nI_clamp (by omega)]; exact hX.at hp
    · exact two_ask hR (-1) (cn_X4_player (X_hasPlayer_y isH1 hX ok hp (y1 (br_f (hz2 0 (by omega)) (br_f (hz2 1 (by omega)) (br_f (hz2 2 (by omega)) (br_f (hz2 3 (by omega)) ⟨rfl, XK.rf⟩))))))) (cn_X5_player (M_isPlayer_y hM ok hp (y1' (M_win_n (n := 3) (by omega) hz2 (y0' ⟨rfl, MK.rf⟩)))))
  · exact two_ask hR (-1) (cn_X4_player (X_hasPlayer_n isH1 hX ok hz (y0 ⟨rfl, XK.rf⟩))) (cn_X5_player (M_isPlayer_n hM ok hz (y0' ⟨rfl, MK.rf⟩)))
