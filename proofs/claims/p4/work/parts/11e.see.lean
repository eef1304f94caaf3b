/-! ===== see, sheet, lay ===== -/
theorem X_see_43 {x : DD} {n t c : Nat} {v : Int32} {q : Int32 → DD → Prop} (e : x 0 11 = nI n) (hn : n < 6) (h : q (nI (n + 1)) (up (up (up (up x 49 n (nI t)) 50 n (nI c)) 51 n v) 0 11 (nI (n + 1)))) : Ev SX MX4_see 43 [.ref 0, .int (nI t), .int (nI c), .int v, uJ] [.int 1] x (rI q) := by
  refine bk_X4_see_43 (y1 (br_t ?_ ?_))
  · rw [e, li_6]; exact (nI_ltI (by omega) (by omega)).mpr hn
  · have e1 : up x 49 n (nI t) 0 11 = nI n := by rw [up_ne 0 (by omega)]; exact e
    have e2 : up (up x 49 n (nI t)) 50 n (nI c) 0 11 = nI n := by rw [up_ne 0 (by omega)]; exact e1
    have e3 : up (up (up x 49 n (nI t)) 50 n (nI c)) 51 n v 0 11 = nI n := by rw [up_ne 0 (by omega)]; exact e2
    have i6 : vp_in (nI n) 6 := vp_in_nI (by omega) (by omega)
    rw [e, nI_clamp (by omega)]
    refine ⟨i6, nm_e ?_⟩
    rw [e1, nI_clamp (by omega)]
    refine ⟨i6, nm_e ?_⟩
    rw [e2, nI_clamp (by omega)]
    refine ⟨i6, nm_e (nm_e ?_)⟩
    rw [e3, nI_1, up_s]
    exact h
theorem M_see_35 {m : DD} {n t c : Nat} {v : Int32} {q : Int32 → DD → Prop} (e : m 0 28 = nI n) (hn : n < 6) (h : q (nI (n + 1)) (up (up (up (up m 12 (3 * n) (nI t)) 12 (3 * n + 1) (nI c)) 12 (3 * n + 2) v) 0 28 (nI (n + 1)))) : Ev SM MX5_see 35 [.ref 0, .int (nI t), .int (nI c), .int v] [] m (rI q) := by
  refine bk_X5_see_35 (rr_f ?_ ?_)
  · rw [e, li_6]; exact fun z => Nat.lt_irrefl _ (nI_inj (by omega) (by omega) z ▸ hn)
  · have e1 : up m 12 (3 * n) (nI t) 0 28 = nI n := by rw [up_ne 0 (by omega)]; exact e
    have e2 : up (up m 12 (3 * n) (nI t)) 12 (3 * n + 1) (nI c) 0 28 = nI n := by rw [up_ne 0 (by omega)]; exact e1
    have e3 : up (up (up m 12 (3 * n) (nI t)) 12 (3 * n + 1) (nI c)) 12 (3 * n + 2) v 0 28 = nI n := by rw [up_ne 0 (by omega)]; exact e2
    have f1 : (3 : Int32) * nI n = nI (3 * n) := by rw [li_3, pk_mul]
    rw [e, f1, nI_clamp (by omega)]
    refine ⟨vp_in_nI (by omega) (by omega), nm_e ?_⟩
    rw [e1, f1, nI_1, nI_clamp (by omega)]
    refine ⟨vp_in_nI (by omega) (by omega), nm_e ?_⟩
    rw [e2, f1, show nI (3 * n) + 2 = nI (3 * n + 2) from nI_add _ 2, nI_clamp (by omega)]
    refine ⟨vp_in_nI (by omega) (by omega), nm_e (nm_e ?_)⟩
    rw [e3, nI_1, up_s]
    exact h
theorem see_put {x m : DD} {H : HH} {n t c : Nat} {v : Int32} (hR : RelH H x m) (hn : n < 6) (hc : c < 160) (a4 : ∀ i, i < n → x 49 i = m 12 (3 * i) ∧ x 50 i = m 12 (3 * i + 1) ∧ x 51 i = m 12 (3 * i + 2) ∧ ∃ c, c < 160 ∧ x 50 i = nI c) : RelH H (up (up (up (up x 49 n (nI t)) 50 n (nI c)) 51 n v) 0 11 (nI (n + 1))) (up (up (up (up m 12 (3 * n) (nI t)) 12 (3 * n + 1) (nI c)) 12 (3 * n + 2) v) 0 28 (nI (n + 1))) := by
  refine hR.seen ⟨n + 1, (by omega), up_s, up_s, fun i hi => ?_⟩ (fun a _ _ _ _ => by rw [up_ne a (by omega), up_ne a (by omega), up_ne a (by omega), up_ne a (by omega)]) (fun j _ => by rw [up_n (by omega), up_n (by omega), up_n (by omega), up_n (by omega)]) (fun a _ _ => by rw [up_ne a (by omega), up_ne a (by omega), up_ne a (by omega), up_ne a (by omega)]) (fun j _ => by rw [up_n (by omega), up_n (by omega), up_n (by omega), up_n (by omega)])
  by_cases z : i = n
  · subst z
    refine ⟨?_, ?_, ?_, c, hc, ?_⟩
    · rw [up_n (by omega), up_n (by omega), up_n (by omega), up_s, up_n (by omega), up_n (by omega), up_n (by omega), up_s]
    · rw [up_n (by omega), up_n (by omega), up_s, up_n (by omega), up_n (by omega), up_s]
    · rw [up_n (by omega), up_s, up_n (by omega), up_s]
    · rw [up_n (by omega), up_n (by omega), up_s]
  · obtain ⟨b1, b2, b3, c', b4, b5⟩ := a4 i (by omega)
    refine ⟨?_, ?_, ?_, c', b4, ?_⟩
    · rw [up_n (by omega), up_n (by omega), up_n (by omega), up_n (by omega), up_n (by omega), up_n (by omega), up_n (by omega), up_n (by omega)]; exact b1
    · rw [up_n (by omega), up_n (by omega), up_n (by omega), up_n (by omega), up_n (by omega), up_n (by omega), up_n (by omega), up_n (by omega)]; exact b2
    · rw [up_n (by omega), up_n (by omega), up_n (by omega), up_n (by omega), up_n (by omega), up_n (by omega), up_n (by omega), up_n (by omega)]; exact b3
    · rw [up_n (by omega), up_n (by omega), up_n (by omega), up_n (by omega)]; exact b5
theorem two_see {x m : DD} {H : HH} {p0 p1 p2 : Int32} (hR : RelH H x m) : Two MX4_see MX5_see [.ref 0, .int p0, .int p1, .int p2] x m := by
  obtain ⟨ok, hX, hM, hO⟩ := id hR
  have o4 := ok.t4
  obtain ⟨n, a1, a2, a3, a4⟩ := hO.2.1
  rcases ge_of (n := nT H) (v := p0) (by omega) with ⟨t, ht, rfl⟩ | hz
  · rcases ge_of (n := 160) (v := p1) (by omega) with ⟨c, hc, rfl⟩ | hz2
    · have fin : ∀ v : Int32, p2 = v → (∀ (q : Int32 → DD → Prop), Ev SX MX4_see 43 [.ref 0, .int (nI t), .int (nI c), .int v, uJ] [.int 1] x (rI q) → Cn SX MX4_see [.ref 0, .int (nI t), .int (nI c), .int v] x (rI q)) → (∀ (q : Int32 → DD → Prop), Ev SM MX5_see 35 [.ref 0, .int (nI t), .int (nI c), .int v] [] m (rI q) → Cn SM MX5_see [.ref 0, .int (nI t), .int (nI c), .int v] m (rI q)) → Two MX4_see MX5_see [.ref 0, .int (nI t), .int (nI c), .int v] x m := by
        intro v _ g1 g2
        by_cases f : n = 6
        · refine two_ask hR (-3) (g1 _ (bk_X4_see_43 (y1 (br_f ?_ ⟨rfl, XK.rf⟩)))) (g2 _ (bk_X5_see_35 (rr_t ?_ ⟨rfl, MK.rf⟩)))
          · rw [a2, f]; decide
          · rw [a3, f]; rfl
        · exact two_chg (nI (n + 1)) _ _ (see_put hR (by omega) hc a4) (g1 _ (X_see_43 a2 (by omega) ⟨rfl, rfl⟩)) (g2 _ (M_see_35 a3 (by omega) ⟨rfl, rfl⟩))
      by_cases c4 : p2 = -4
      · subst c4
        exact fin (-4) rfl (fun q h => cn_X4_see (X_hasTune_y isH1 hX ok ht (y1' (X_win_y (n := 159) (by omega) (by omega) (y1' (br_t rfl h)))))) (fun q h => cn_X5_see (M_isTune_y hM ok ht (y1' (M_isMinute_y hc (y1' (br_t rfl h))))))
      · rcases ge_of (n := 10) (v := p2) (by omega) with ⟨v, hv, rfl⟩ | hz3
        · exact fin (nI v) rfl (fun q h => cn_X4_see (X_hasTune_y isH1 hX ok ht (y1' (X_win_y (n := 159) (by omega) (by omega) (y1' (br_f c4 (X_win_y (n := 9) (by omega) (by omega) (y1' h)))))))) (fun q h => cn_X5_see (M_isTune_y hM ok ht (y1' (M_isMinute_y hc (y1' (br_f c4 (M_win_y (n := 9) (by omega) (by omega) (y1 h))))))))
        · exact two_ask hR (-1) (cn_X4_see (X_hasTune_y isH1 hX ok ht (y1' (X_win_y (n := 159) (by omega) (by omega) (y1' (br_f c4 (X_win_n (n := 9) (by omega) hz3 (y0' (bk_X4_see_43 (y0 ⟨rfl, XK.rf⟩)))))))))) (cn_X5_see (M_isTune_y hM ok ht (y1' (M_isMinute_y hc (y1' (br_f c4 (M_win_n (n := 9) (by omega) hz3 (y0 ⟨rfl, MK.rf⟩))))))))
    · exact two_ask hR (-1) (cn_X4_see (X_hasTune_y isH1 hX ok ht (y1' (X_win_n (n := 159) (by omega) hz2 (y0' (bk_X4_see_43 (y0 ⟨rfl, XK.rf⟩))))))) (cn_X5_see (M_isTune_y hM ok ht (y1' (M_isMinute_n hz2 (y0' ⟨rfl, MK.rf⟩)))))
  · exact two_ask hR (-1) (cn_X4_see (X_hasTune_n isH1 hX ok hz (y0' (bk_X4_see_43 (y0 ⟨rfl, XK.rf⟩))))) (cn_X5_see (M_isTune_n hM ok hz (y0' ⟨rfl, MK.rf⟩)))
