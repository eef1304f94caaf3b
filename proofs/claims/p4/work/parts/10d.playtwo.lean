/-! ===== over, out, plays, sounds, sum, first ===== -/
theorem RelO.sil {H : HH} {x m : DD} (h : RelO H x m) : m 0 26 = nI 0 := h.2.2.2.2.2.1
def overV (P : PL) (t w : Nat) : Int32 := if w = 0 then nI (P 0 t - 1) else if w = 1 then nI (P 1 t) else nI (P 2 t)
theorem lt3 {w : Nat} (h : w < 3) : w = 0 ∨ w = 1 ∨ w = 2 := by omega
theorem X_over {q : Int32 → DD → Prop} {d : DD} {H : HH} {t w : Nat} (hX : XH 1 d H) (ok : OKH H) (ht : t < nT H) (hw : w < 3) (h : ∀ d', XF d d' → q (overV (playS H 0) t w) d') : Cn SX MX4_over [.ref 0, .int (nI t), .int (nI w)] d (rI q) := by
  have o4 := ok.t4
  refine cn_X4_over (X_hasTune_y isH1 hX ok ht (y1' (X_win_y (n := 2) (by omega) (by omega) (y1 (X_run (sil := 0) isH1 hX ok (by omega) fun d' f e => ?_)))))
  have hh := h d' f
  have e1 := e.1 t ht
  rcases lt3 hw with rfl | rfl | rfl
  · refine br_t rfl ⟨vp_in_nI (by omega) (by omega), ?_⟩
    rw [nI_clamp (by omega), e1.2.1]; exact hh
  · refine br_f (by decide) (br_t rfl ⟨vp_in_nI (by omega) (by omega), ?_⟩)
    rw [nI_clamp (by omega), e1.2.2.1]; exact hh
  · refine br_f (by decide) (br_f (by decide) ⟨vp_in_nI (by omega) (by omega), ?_⟩)
    rw [nI_clamp (by omega), e1.2.2.2]; exact hh
theorem two_over {x m : DD} {H : HH} {p0 p1 : Int32} (hR : RelH H x m) : Two MX4_over MX5_over [.ref 0, .int p0, .int p1] x m := by
  obtain ⟨ok, hX, hM, hO⟩ := id hR
  have o4 := ok.t4
  rcases ge_of (n := nT H) (v := p0) (by omega) with ⟨t, ht, rfl⟩ | hz
  · rcases ge_of (n := 3) (v := p1) (by omega) with ⟨w, hw, rfl⟩ | hz2
    · refine two_ask hR (overV (playS H 0) t w) (X_over hX ok ht hw fun d' f => ⟨rfl, f.k⟩) (cn_X5_over (M_isTune_y hM ok ht (y1' (M_win_y (n := 2) (by omega) (by omega) (y1 (M_playing hM ok hO.sil (by omega) fun d' f e => ?_))))))
      have e1 := e.1 t ht
      rcases lt3 hw with rfl | rfl | rfl
      · refine rr_t rfl ⟨vp_in_nI (by omega) (by omega), ?_, f.k⟩
        rw [nI_clamp (by omega), e1.2.1]; rfl
      · refine rr_f (by decide) (rr_t rfl ⟨vp_in_nI (by omega) (by omega), ?_, f.k⟩)
        rw [nI_clamp (by omega), e1.2.2.1]; rfl
      · refine rr_f (by decide) (rr_f (by decide) ⟨vp_in_nI (by omega) (by omega), ?_, f.k⟩)
        rw [nI_clamp (by omega), e1.2.2.2]; rfl
    · exact two_ask hR (-1) (cn_X4_over (X_hasTune_y isH1 hX ok ht (y1' (X_win_n (n := 2) (by omega) hz2 (y0 ⟨rfl, XK.rf⟩))))) (cn_X5_over (M_isTune_y hM ok ht (y1' (M_win_n (n := 2) (by omega) hz2 (y0 ⟨rfl, MK.rf⟩)))))
  · exact two_ask hR (-1) (cn_X4_over (X_hasTune_n isH1 hX ok hz (y0' ⟨rfl, XK.rf⟩))) (cn_X5_over (M_isTune_n hM ok hz (y0' ⟨rfl, MK.rf⟩)))
theorem two_out {x m : DD} {H : HH} {p0 p1 : Int32} (hR : RelH H x m) : Two MX4_out MX5_out [.ref 0, .int p0, .int p1] x m := by
  obtain ⟨ok, hX, hM, hO⟩ := id hR
  have o4 := ok.t4
  have o6 := ok.b6
  rcases ge_of (n := nB H) (v := p0) (by omega) with ⟨p, hp, rfl⟩ | hz
  · rcases ge_of (n := 2) (v := p1) (by omega) with ⟨w, hw, rfl⟩ | hz2
    · have hb := ok.bb hp
      refine two_ask hR (overV (playS H 0) (H 9 p) w) (cn_X4_out (X_hasPrisoner_y isH1 hX ok hp (y1' (X_win_y (n := 1) (by omega) (by omega) (y1 ⟨vp_in_nI (by omega) (by omega), ?_⟩))))) (cn_X5_out (M_isBound_y hM ok hp (y1' (M_win_y (n := 1) (by omega) (by omega) (y1 (M_playing hM ok hO.sil (by omega) fun d' f e => ?_))))))
      · rw [nI_clamp (by omega), hX.bond hp]
        exact X_over hX ok hb (by omega) fun d' f => ⟨rfl, f.k⟩
      · have e1 := e.1 _ hb
        rw [show (64 : Int32) + nI p = nI (64 + p) from nI_add 64 p]
        refine ⟨vp_in_nI (by omega) (by omega), nm_e ?_⟩
        rw [nI_clamp (by omega), (hM.mf ok f).bond hp]
        rcases (show w = 0 ∨ w = 1 by omega) with rfl | rfl
        · refine rr_t rfl ⟨vp_in_nI (by omega) (by omega), ?_, f.k⟩
          rw [nI_clamp (by omega), e1.2.1]; rfl
        · refine rr_f (by decide) ⟨vp_in_nI (by omega) (by omega), ?_, f.k⟩
          rw [nI_clamp (by omega), e1.2.2.1]; rfl
    · exact two_ask hR (-1) (cn_X4_out (X_hasPrisoner_y isH1 hX ok hp (y1' (X_win_n (n := 1) (by omega) hz2 (y0 ⟨rfl, XK.rf⟩))))) (cn_X5_out (M_isBound_y hM ok hp (y1' (M_win_n (n := 1) (by omega) hz2 (y0 ⟨rfl, MK.rf⟩)))))
  · exact two_ask hR (-1) (cn_X4_out (X_hasPrisoner_n isH1 hX ok hz (y0' ⟨rfl, XK.rf⟩))) (cn_X5_out (M_isBound_n hM ok hz (y0' ⟨rfl, MK.rf⟩)))
theorem two_plays {x m : DD} {H : HH} {p0 : Int32} (hR : RelH H x m) : Two MX4_plays MX5_plays [.ref 0, .int p0] x m := by
  obtain ⟨ok, hX, hM, hO⟩ := id hR
  have o4 := ok.p4
  rcases ge_of (n := nP H) (v := p0) (by omega) with ⟨p, hp, rfl⟩ | hz
  · refine two_ask hR (nI (playS H 0 4 p)) (cn_X4_plays (X_hasPlayer_y isH1 hX ok hp (y1 (X_run (sil := 0) isH1 hX ok (by omega) fun d' f e => ⟨vp_in_nI (by omega) (by omega), ?_, f.k⟩)))) (cn_X5_plays (M_isPlayer_y hM ok hp (y1 (M_playing hM ok hO.sil (by omega) fun d' f e => ⟨vp_in_nI (by omega) (by omega), ?_, f.k⟩))))
    · rw [nI_clamp (by omega)]; exact e.2 p hp
    · rw [nI_clamp (by omega)]; exact e.2.1 p hp
  · exact two_ask hR (-1) (cn_X4_plays (X_hasPlayer_n isH1 hX ok hz (y0 ⟨rfl, XK.rf⟩))) (cn_X5_plays (M_isPlayer_n hM ok hz (y0 ⟨rfl, MK.rf⟩)))
theorem X_sounds_4 {q : Int32 → DD → Prop} {d : DD} {H : HH} {P : PL} {w : Nat} (hX : XH 1 d H) (ok : OKH H) (hI : Pinv H 160 P) (hE : XE d H P) (hw : w < 160) (h : q (nI (maskN (sndB H P w) (nT H))) d) : Ev SX MX4_sounds 29 [.ref 0, .int (nI w), .int (nI 0), .int (nI 0)] [] d (rI q) := by
  have o4 := ok.t4
  refine for_up (W := fun k d' => Ev SX MX4_sounds 29 [.ref 0, .int (nI w), .int (nI (maskN (sndB H P w) k)), .int (nI k)] [] d' (rI q)) (I := fun k d' => d' = d) (nT H) ?_ ?_ 0 d (Nat.zero_le _) rfl
  · rintro d' rfl
    refine bk_X4_sounds_29 ⟨fun _ => h, fun c => absurd ?_ c⟩
    rw [hX.nt]; exact nI_le (Nat.le_refl _) (by omega)
  · rintro k d' hk rfl ih
    have ot := ok.tt hk
    have h3 := ot.2.2.2.2.2.1
    have b2 := hI.2.1 k hk
    have bl : lenO H k ≤ 144 := lenB_le ot
    have e : maskN (sndB H P w) (k + 1) = maskN (sndB H P w) k + (if sndB H P w k = true then 2 ^ k else 0) := rfl
    have := ih d' rfl
    rw [e] at this
    refine bk_X4_sounds_29 ⟨fun c => ?_, fun _ => ⟨vp_in_nI (by omega) (by omega), ?_⟩⟩
    · rw [hX.nt] at c; exact absurd ((nI_leI (by omega) (by omega)).mp c) (by omega)
    · rw [nI_clamp (by omega), hX.start hk, (hE.1 k hk).2.2.2, nI_1]
      refine ⟨fun c => ?_, fun c => ?_⟩
      · have c := (nI_ltI (by omega) (by omega)).mp c
        rw [if_neg (by simp only [sndB, decide_eq_true_eq]; omega), Nat.add_zero] at this
        exact this
      · have c : H 3 k ≤ w := by
          rcases Nat.lt_or_ge w (H 3 k) with z | z
          · exact absurd ((nI_ltI (by omega) (by omega)).mpr z) c
          · exact z
        rw [pk_sub c]
        refine ⟨vp_in_nI (by omega) (by omega), vp_in_nI (by omega) (by omega), fun c2 => ?_, fun c2 => nm_e ?_⟩
        · have c2 := (nI_leI (by omega) (by omega)).mp c2
          rw [if_neg (by simp only [sndB, decide_eq_true_eq]; omega), Nat.add_zero] at this
          exact this
        · have c2 : w - H 3 k < P 2 k := by
            rcases Nat.lt_or_ge (w - H 3 k) (P 2 k) with z | z
            · exact z
            · exact absurd ((nI_leI (by omega) (by omega)).mpr z) c2
          rw [if_pos (by simp only [sndB, decide_eq_true_eq]; omega)] at this
          rw [shl1 (by omega), mask_or (by omega)]
          exact this
theorem two_sounds {x m : DD} {H : HH} {p0 : Int32} (hR : RelH H x m) : Two MX4_sounds MX5_sounds [.ref 0, .int p0] x m := by
  obtain ⟨ok, hX, hM, hO⟩ := id hR
  rcases ge_of (n := 160) (v := p0) (by omega) with ⟨w, hw, rfl⟩ | hz
  · refine two_ask hR (nI (maskN (sndB H (playS H 0) w) (nT H))) (cn_X4_sounds (X_win_y (n := 159) (by omega) (by omega) (y1 (X_run (sil := 0) isH1 hX ok (by omega) fun d' f e => X_sounds_4 (hX.xk f.k) ok (play_inv ok) e hw ⟨rfl, f.k⟩)))) (cn_X5_sounds (M_isMinute_y hw (y1 (M_playing hM ok hO.sil (by omega) fun d' f e => ⟨vp_in_nI (by omega) (by omega), ?_, f.k⟩))))
    rw [nI_clamp (by omega)]; exact e.2.2 w hw
  · exact two_ask hR (-1) (cn_X4_sounds (X_win_n (n := 159) (by omega) hz (y0 ⟨rfl, XK.rf⟩))) (cn_X5_sounds (M_isMinute_n hz (y0 ⟨rfl, MK.rf⟩)))
