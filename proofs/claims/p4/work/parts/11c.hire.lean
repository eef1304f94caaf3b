/-! ===== hire, add ===== -/
theorem M_hire_b0 {q : Int32 → DD → Prop} {d : DD} {H : HH} {p0 p1 p2 : Int32} (hM : MH 0 d H) (ok : OKH H) (h : q (-1) d) : Ev SM MX5_hire 56 [.ref 0, .int p0, .int p1, .int p2, uJ] [.int 0] d (rI q) := bk_X5_hire_56 (M_isPlayer hM ok (fun _ _ _ => y1' (br_t rfl (bk_X5_hire_77 (M_puts_n h)))) (fun _ => y0' (bk_X5_hire_77 (M_puts_n h))))
theorem M_hire_bn {q : Int32 → DD → Prop} {d : DD} {H : HH} {p0 p1 p2 k0 : Int32} (hM : MH 0 d H) (ok : OKH H) (hz : ∀ j, j < nP H → p0 ≠ nI j) (h : q (-1) d) : Ev SM MX5_hire 56 [.ref 0, .int p0, .int p1, .int p2, uJ] [.int k0] d (rI q) := bk_X5_hire_56 (M_isPlayer_n hM ok hz (y0' (bk_X5_hire_77 (M_puts_n h))))
theorem M_hire_b1 {q : Int32 → DD → Prop} {d : DD} {H : HH} {p w : Nat} {p2 : Int32} (hM : MH 0 d H) (ok : OKH H) (hp : p < nP H) (hw : w < 4) (h : q (d 1 (48 + 4 * w + p)) (up d 1 (48 + 4 * w + p) p2)) : Ev SM MX5_hire 56 [.ref 0, .int (nI p), .int (nI w), .int p2, uJ] [.int 1] d (rI q) := by
  have o4 := ok.p4
  refine bk_X5_hire_56 (M_isPlayer_y hM ok hp (y1' (br_f (by decide) (bk_X5_hire_77 ?_))))
  rw [show (48 : Int32) + 4 * nI w + nI p = nI (48 + 4 * w + p) from by rw [li_4, li_48, pk_mul, nI_add, nI_add]]
  exact M_puts_y (by omega) h
theorem two_hire {x m : DD} {H : HH} {p0 p1 p2 : Int32} (hR : RelH H x m) : Two MX4_hire MX5_hire [.ref 0, .int p0, .int p1, .int p2] x m := by
  obtain ⟨ok, hX, hM, hO⟩ := id hR
  have o4 := ok.p4
  have t4 := ok.t4
  rcases ge_of (n := nP H) (v := p0) (by omega) with ⟨p, hp, rfl⟩ | hz
  · by_cases c0 : p1 = 0
    · subst c0
      rcases ge_of (n := 10) (v := p2) (by omega) with ⟨v, hv, rfl⟩ | hz2
      · exact two_chg (nI (H 5 p)) _ _ (hR.put (f := 5) (i := p) (v := v) (by omega) (show p < 4 by omega) ⟨by simp, by simp, by simp, by simp, by simp, fun _ => (by omega), by simp, by simp, by simp, by simp⟩ (fun c => absurd c (by decide)) rfl rfl) (cn_X4_hire (X_hasPlayer_y isH1 hX ok hp (y1 (br_t rfl (X_win_y (n := 9) (by omega) (by omega) (y1' (X_exch rfl (by omega) (by omega) ⟨hX.skill hp, rfl⟩))))))) (cn_X5_hire (rr_f (by decide) (rr_f (by decide) (br_t rfl (M_win_y (n := 9) (by omega) (by omega) (y1' (M_hire_b1 (w := 0) hM ok hp (by omega) ⟨hM.skill hp, rfl⟩)))))))
      · exact two_ask hR (-1) (cn_X4_hire (X_hasPlayer_y isH1 hX ok hp (y1 (br_t rfl (X_win_n (n := 9) (by omega) hz2 (y0' ⟨rfl, XK.rf⟩)))))) (cn_X5_hire (rr_f (by decide) (rr_f (by decide) (br_t rfl (M_win_n (n := 9) (by omega) hz2 (y0' (M_hire_b0 hM ok ⟨rfl, MK.rf⟩)))))))
    · by_cases c1 : p1 = 1
      · subst c1
        rcases ge1_of (n := 99) (v := p2) with ⟨v, hv1, hv, rfl⟩ | hz2
        · exact two_chg (nI (H 6 p)) _ _ (hR.put (f := 6) (i := p) (v := v) (by omega) (show p < 4 by omega) ⟨by simp, by simp, by simp, by simp, by simp, by simp, fun _ => ⟨hv1, hv⟩, by simp, by simp, by simp⟩ (fun c => absurd c (by decide)) rfl rfl) (cn_X4_hire (X_hasPlayer_y isH1 hX ok hp (y1 (br_f c0 (br_t rfl (X_w1_y (n := 99) (by omega) hv1 hv (y1' (X_exch rfl (by omega) (by omega) ⟨hX.breath hp, rfl⟩)))))))) (cn_X5_hire (rr_t rfl (M_w1_y (n := 99) (by omega) hv1 hv (M_hire_b1 (w := 1) hM ok hp (by omega) ⟨hM.breath hp, rfl⟩))))
        · exact two_ask hR (-1) (cn_X4_hire (X_hasPlayer_y isH1 hX ok hp (y1 (br_f c0 (br_t rfl (X_w1_n (n := 99) (by omega) hz2 (y0' ⟨rfl, XK.rf⟩))))))) (cn_X5_hire (rr_t rfl (M_w1_n (n := 99) (by omega) hz2 (M_hire_b0 hM ok ⟨rfl, MK.rf⟩))))
      · by_cases c2 : p1 = 2
        · subst c2
          rcases ge_of (n := 10) (v := p2) (by omega) with ⟨v, hv, rfl⟩ | hz2
          · exact two_chg (nI (H 7 p)) _ _ (hR.put (f := 7) (i := p) (v := v) (by omega) (show p < 4 by omega) ⟨by simp, by simp, by simp, by simp, by simp, by simp, by simp, fun _ => (by omega), by simp, by simp⟩ (fun c => absurd c (by decide)) rfl rfl) (cn_X4_hire (X_hasPlayer_y isH1 hX ok hp (y1 (br_f c0 (br_f c1 (br_t rfl (X_win_y (n := 9) (by omega) (by omega) (y1' (X_exch rfl (by omega) (by omega) ⟨hX.pay hp, rfl⟩))))))))) (cn_X5_hire (rr_f c1 (rr_f (by decide) (br_f c0 (rr_t rfl (M_win_y (n := 9) (by omega) (by omega) (y1' (M_hire_b1 (w := 2) hM ok hp (by omega) ⟨hM.pay hp, rfl⟩))))))))
          · exact two_ask hR (-1) (cn_X4_hire (X_hasPlayer_y isH1 hX ok hp (y1 (br_f c0 (br_f c1 (br_t rfl (X_win_n (n := 9) (by omega) hz2 (y0' ⟨rfl, XK.rf⟩)))))))) (cn_X5_hire (rr_f c1 (rr_f (by decide) (br_f c0 (rr_t rfl (M_win_n (n := 9) (by omega) hz2 (y0' (M_hire_b0 hM ok ⟨rfl, MK.rf⟩))))))))
        · by_cases c3 : p1 = 3
          · subst c3
            rcases ge_of (n := nT H) (v := p2) (by omega) with ⟨v, hv, rfl⟩ | hz2
            · exact two_chg (nI (H 8 p)) _ _ (hR.put (f := 8) (i := p) (v := v) (by omega) (show p < 4 by omega) ⟨by simp, by simp, by simp, by simp, by simp, by simp, by simp, by simp, fun _ => hv, by simp⟩ (fun c => absurd c (by decide)) rfl rfl) (cn_X4_hire (X_hasPlayer_y isH1 hX ok hp (y1 (br_f c0 (br_f c1 (br_f c2 (br_t rfl (X_hasTune_y isH1 hX ok hv (y1' (X_exch rfl (by omega) (by omega) ⟨hX.at hp, rfl⟩)))))))))) (cn_X5_hire (rr_f c1 (rr_t rfl (M_isTune_y hM ok hv (M_hire_b1 (w := 3) hM ok hp (by omega) ⟨hM.at hp, rfl⟩)))))
            · exact two_ask hR (-1) (cn_X4_hire (X_hasPlayer_y isH1 hX ok hp (y1 (br_f c0 (br_f c1 (br_f c2 (br_t rfl (X_hasTune_n isH1 hX ok hz2 (y0' ⟨rfl, XK.rf⟩))))))))) (cn_X5_hire (rr_f c1 (rr_t rfl (M_isTune_n hM ok hz2 (M_hire_b0 hM ok ⟨rfl, MK.rf⟩)))))
          · exact two_ask hR (-1) (cn_X4_hire (X_hasPlayer_y isH1 hX ok hp (y1 (br_f c0 (br_f c1 (br_f c2 (br_f c3 ⟨rfl, XK.rf⟩))))))) (cn_X5_hire (rr_f c1 (rr_f c3 (br_f c0 (rr_f c2 (M_hire_b0 hM ok ⟨rfl, MK.rf⟩))))))
  · have b : ∀ k0, Ev SM MX5_hire 56 [.ref 0, .int p0, .int p1, .int p2, uJ] [.int k0] m (rI fun r' d => r' = -1 ∧ MK m d) := fun k0 => M_hire_bn hM ok hz ⟨rfl, MK.rf⟩
    exact two_ask hR (-1) (cn_X4_hire (X_hasPlayer_n isH1 hX ok hz (y0 ⟨rfl, XK.rf⟩))) (cn_X5_hire ⟨fun _ => ⟨fun _ => ⟨fun _ => M_any (y1' (b 1)) (y0' (b 0)), fun _ => ⟨fun _ => b 0, fun _ => M_any (y1' (b 1)) (y0' (b 0))⟩⟩, fun _ => M_isTune hM ok (fun _ _ _ => b 1) (fun _ => b 0)⟩, fun _ => M_any (b 1) (b 0)⟩)
theorem two_add {x m : DD} {H : HH} {p0 p1 : Int32} (hR : RelH H x m) : Two MX4_add MX5_add [.ref 0, .int p0, .int p1] x m := by
  obtain ⟨ok, hX, hM, hO⟩ := id hR
  have o4 := ok.t4
  rcases ge_of (n := nT H) (v := p0) (by omega) with ⟨t, ht, rfl⟩ | hz
  · have ot := ok.tt ht
    have o8 := ot.2.2.1
    rcases ge_of (n := 10) (v := p1) (by omega) with ⟨v, hv, rfl⟩ | hz2
    · have mi : vp_in ((4 : Int32) + nI t) 350 := by rw [show (4 : Int32) + nI t = nI (4 + t) from nI_add 4 t]; exact vp_in_nI (by omega) (by omega)
      have me : ((4 : Int32) + nI t).toNatClampNeg = 4 + t := by rw [show (4 : Int32) + nI t = nI (4 + t) from nI_add 4 t, nI_clamp (by omega)]
      by_cases c : H 1 t = 8
      · refine two_ask hR (-3) (cn_X4_add (X_hasTune_y isH1 hX ok ht (y1' (X_win_y (n := 9) (by omega) (by omega) (y1 ⟨vp_in_nI (by omega) (by omega), nm_e (br_f ?_ ⟨rfl, XK.rf⟩)⟩))))) (cn_X5_add (M_isTune_y hM ok ht (y1' (M_win_y (n := 9) (by omega) (by omega) (y1 ⟨mi, rr_t ?_ ⟨rfl, MK.rf⟩⟩)))))
        · rw [nI_clamp (by omega), hX.notes ht, c]; decide
        · rw [me, hM.notes ht, c]; rfl
      · have h1 : RelH (pu H 4 (8 * t + H 1 t) v) (up x 6 (8 * t + H 1 t) (nI v)) (up m 1 (16 + (8 * t + H 1 t)) (nI v)) := hR.put (f := 4) (i := 8 * t + H 1 t) (v := v) (by omega) (show 8 * t + H 1 t < 32 by omega) ⟨by simp, by simp, by simp, by simp, fun _ => (by omega), by simp, by simp, by simp, by simp, by simp⟩ (fun c => absurd c (by decide)) rfl rfl
        have e1 : pu H 4 (8 * t + H 1 t) v 1 t = H 1 t := pu_n (by omega)
        have e4 : ∀ j, j < H 1 t + 1 → pu H 4 (8 * t + H 1 t) v 4 (8 * t + j) ≤ 9 := by
          intro j hj
          rw [pu_rd]; split
          · omega
          · exact ot.2.2.2.2.2.2 j (by omega)
        have sx : ∀ j, j < H 1 t + 1 → up x 6 (8 * t + H 1 t) (nI v) 6 (8 * t + j) = nI (pu H 4 (8 * t + H 1 t) v 4 (8 * t + j)) := by
          intro j hj
          rw [pu_rd, up_rd]
          by_cases z : j = H 1 t
          · subst z; rw [if_pos ⟨rfl, rfl⟩, if_pos ⟨rfl, rfl⟩]
          · rw [if_neg (by omega), if_neg (by omega)]; exact hX.score ht (by omega)
        have sm : ∀ j, j < H 1 t + 1 → up m 1 (16 + (8 * t + H 1 t)) (nI v) 1 (16 + (8 * t + j)) = nI (pu H 4 (8 * t + H 1 t) v 4 (8 * t + j)) := by
          intro j hj
          rw [pu_rd, up_rd]
          by_cases z : j = H 1 t
          · subst z; rw [if_pos ⟨rfl, rfl⟩, if_pos ⟨rfl, rfl⟩]
          · rw [if_neg (by omega), if_neg (by omega)]; exact hM.score ht (by omega)
        have h2 := h1.put (f := 1) (i := t) (v := H 1 t + 1) (by omega) (show t < 4 by omega) ⟨by simp, fun _ => ⟨(by omega), (by omega), e4⟩, by simp, by simp, by simp, by simp, by simp, by simp, by simp, by simp⟩ (fun _ _ j hj => ⟨sx j hj, sm j hj⟩) rfl rfl
        refine two_chg (nI (H 1 t + 1)) _ _ h2 (cn_X4_add (X_hasTune_y isH1 hX ok ht (y1' (X_win_y (n := 9) (by omega) (by omega) (y1 ⟨vp_in_nI (by omega) (by omega), nm_e (br_t ?_ ?_)⟩))))) (cn_X5_add (M_isTune_y hM ok ht (y1' (M_win_y (n := 9) (by omega) (by omega) (y1 ⟨mi, rr_f ?_ ⟨mi, ?_⟩⟩)))))
        · rw [nI_clamp (by omega), hX.notes ht, li_8]; exact (nI_ltI (by omega) (by omega)).mpr (by omega)
        · rw [nI_clamp (by omega), hX.notes ht, show nI t * 8 + nI (H 1 t) = nI (8 * t + H 1 t) from by rw [li_8, pk_mul, nI_add, Nat.mul_comm], nI_1]
          refine ⟨vp_in_nI (by omega) (by omega), nm_e ⟨vp_in_nI (by omega) (by omega), nm_e ⟨rfl, ?_⟩⟩⟩
          rw [nI_clamp (by omega)]
        · rw [me, hM.notes ht, li_8]; exact fun z => c (nI_inj (by omega) (by omega) z)
        · rw [me, hM.notes ht, show 16 + 8 * nI t + nI (H 1 t) = nI (16 + (8 * t + H 1 t)) from by rw [li_8, li_16, pk_mul, nI_add, nI_add, Nat.add_assoc]]
          refine ⟨vp_in_nI (by omega) (by omega), nm_e ⟨mi, mi, nm_e ⟨mi, ?_⟩⟩⟩
          have eh : up m 1 (16 + (8 * t + H 1 t)) (nI v) 1 (4 + t) = nI (H 1 t) := by rw [up_n (by omega), hM.notes ht]
          rw [nI_clamp (by omega)]
          simp only [me, up_s, eh, nI_1]
          exact ⟨trivial, rfl⟩
    · exact two_ask hR (-1) (cn_X4_add (X_hasTune_y isH1 hX ok ht (y1' (X_win_n (n := 9) (by omega) hz2 (y0 ⟨rfl, XK.rf⟩))))) (cn_X5_add (M_isTune_y hM ok ht (y1' (M_win_n (n := 9) (by omega) hz2 (y0 ⟨rfl, MK.rf⟩)))))
  · exact two_ask hR (-1) (cn_X4_add (X_hasTune_n isH1 hX ok hz (y0' ⟨rfl, XK.rf⟩))) (cn_X5_add (M_isTune_n hM ok hz (y0' ⟨rfl, MK.rf⟩)))
