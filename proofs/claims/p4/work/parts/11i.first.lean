def mtm (H : HH) (P : PL) (s : Nat) : Int32 := if s = 0 then 1000000 else nI (P 0 (H 9 (s - 1)) - 1)
theorem M_first_25 {q : Int32 → DD → Prop} {d : DD} {H : HH} {P : PL} {w : Nat} (hM : MH 0 d H) (ok : OKH H) (hI : Pinv H 160 P) (hE : ME d H P) (hw : w < 2) (h : q (firV H P w) d) : Ev SM MX5_first 25 [.ref 0, .int (nI w), .int 1000000, .int (-4), .int (nI 0), uJ, uJ] [] d (rI q) := by
  have o6 := ok.b6
  have o4 := ok.t4
  refine for_up (W := fun k d' => Ev SM MX5_first 25 [.ref 0, .int (nI w), .int (mtm H P (firS H P k)), .int (mv (firS H P k)), .int (nI k), uJ, uJ] [] d' (rI q)) (I := fun k d' => d' = d) (nB H) ?_ ?_ 0 d (Nat.zero_le _) rfl
  · rintro d' rfl
    have hle := firS_le H P (nB H)
    refine bk_X5_first_25 ⟨fun _ => ?_, fun c => absurd ?_ c⟩
    · unfold firV at h
      unfold mv mtm
      by_cases z : firS H P (nB H) = 0
      · rw [if_pos z] at h; rw [if_pos z, if_pos z]
        exact br_t rfl h
      · rw [if_neg z] at h; rw [if_neg z, if_neg z]
        refine br_f (fun y => ne_m4 (by omega) y) ?_
        rcases (show w = 0 ∨ w = 1 by omega) with rfl | rfl
        · exact rr_f (by decide) h
        · exact rr_t rfl h
    · rw [hM.nb]; exact nI_le (Nat.le_refl _) (by omega)
  · rintro k d' hk rfl ih
    have hle := firS_le H P k
    have hb := ok.bb hk
    have b2 := (hI.2.2.1 _ hb).1
    have b1 := (hI.2.2.1 _ hb).2
    have p2 := (hE.1 _ hb).1
    have := ih d' rfl
    rw [firS_s] at this
    have e4 : (64 : Int32) + nI k = nI (64 + k) := nI_add 64 k
    refine bk_X5_first_25 ⟨fun c => ?_, fun _ => ?_⟩
    · rw [hM.nb] at c; exact absurd ((nI_leI (by omega) (by omega)).mp c) (by omega)
    · rw [e4]
      refine ⟨vp_in_nI (by omega) (by omega), nm_e ?_⟩
      rw [nI_clamp (by omega), hM.bond hk]
      have i4 : vp_in (nI (H 9 k)) 4 := vp_in_nI (by omega) (by omega)
      refine ⟨i4, ?_⟩
      rw [nI_clamp (by omega), (hE.1 _ hb).2.2.1, (hE.1 _ hb).2.1]
      by_cases g : P 1 (H 9 k) = 0
      · rw [if_neg (fun z => z.1 g)] at this
        exact br_t (by rw [g]; rfl) (bk_X5_first_85 (br_t rfl (by rw [nI_1]; exact this)))
      · refine br_f (fun z => g (nI_inj (b := 0) (by omega) (by omega) z)) ⟨i4, ?_⟩
        by_cases z : firS H P k = 0
        · rw [if_pos ⟨g, Or.inl z⟩] at this
          refine br_f ?_ (bk_X5_first_85 (br_f (by decide) ⟨i4, nm_e ?_⟩))
          · unfold mtm; rw [if_pos z, li_1000000]; exact fun y => absurd ((nI_leI (by omega) (by omega)).mp y) (by omega)
          · rw [nI_clamp (by omega), (hE.1 _ hb).2.1, nI_1]
            rw [show mtm H P (k + 1) = nI (P 0 (H 9 k) - 1) from if_neg (by omega), mv_s] at this
            exact this
        · have hj := (ok.bb (q := firS H P k - 1) (by omega))
          have c1 := (hI.2.2.1 _ hj).1
          have c2 := (hE.1 _ hj).1
          have em : mtm H P (firS H P k) = nI (P 0 (H 9 (firS H P k - 1)) - 1) := if_neg z
          by_cases y : P 0 (H 9 k) < P 0 (H 9 (firS H P k - 1))
          · rw [if_pos ⟨g, Or.inr y⟩] at this
            refine br_f ?_ (bk_X5_first_85 (br_f (by decide) ⟨i4, nm_e ?_⟩))
            · rw [em]; exact fun y => absurd ((nI_leI (by omega) (by omega)).mp y) (by omega)
            · rw [nI_clamp (by omega), (hE.1 _ hb).2.1, nI_1]
              rw [show mtm H P (k + 1) = nI (P 0 (H 9 k) - 1) from if_neg (by omega), mv_s] at this
              exact this
          · rw [if_neg (fun x => by rcases x.2 with x | x <;> omega)] at this
            refine br_t ?_ (bk_X5_first_85 (br_t rfl (by rw [nI_1]; exact this)))
            rw [em]; exact (nI_leI (by omega) (by omega)).mpr (by omega)
theorem two_first {x m : DD} {H : HH} {p0 : Int32} (hR : RelH H x m) : Two MX4_first MX5_first [.ref 0, .int p0] x m := by
  obtain ⟨ok, hX, hM, hO⟩ := id hR
  rcases ge_of (n := 2) (v := p0) (by omega) with ⟨w, hw, rfl⟩ | hz
  · exact two_ask hR (firV H (playS H 0) w) (cn_X4_first (X_win_y (n := 1) (by omega) (by omega) (y1 (X_run (sil := 0) isH1 hX ok (by omega) fun d' f e => X_first_27 (hX.xk f.k) ok (play_inv ok) e hw ⟨rfl, f.k⟩)))) (cn_X5_first (M_win_y (n := 1) (by omega) (by omega) (y1 (M_playing hM ok hO.sil (by omega) fun d' f e => M_first_25 (hM.mf ok f) ok (play_inv ok) e hw ⟨rfl, f.k⟩))))
  · exact two_ask hR (-1) (cn_X4_first (X_win_n (n := 1) (by omega) hz (y0 ⟨rfl, XK.rf⟩))) (cn_X5_first (M_win_n (n := 1) (by omega) hz (y0 ⟨rfl, MK.rf⟩)))
