/-! ===== write, add, set, hire, bind ===== -/
theorem X_exch {q : Int32 → DD → Prop} {d : DD} {c n i : Nat} {v : Int32} (hc : SX[c]? = some (0, n, [])) (hi : i < n) (hn : n ≤ 1000) (h : q (d c i) (up d c i v)) : Cn SX MX4_exchange [.ref c, .int (nI i), .int v] d (rI q) := by
  refine cn_X4_exchange hc ⟨vp_in_nI hi (by omega), nm_e ⟨vp_in_nI hi (by omega), nm_e ?_⟩⟩
  rw [nI_clamp (by omega)]
  exact h
theorem M_puts_y {q : Int32 → DD → Prop} {d : DD} {i : Nat} {v : Int32} (hi : i < 350) (h : q (d 1 i) (up d 1 i v)) : Cn SM MX5_puts [.ref 0, .int 1, .int (nI i), .int v] d (rI q) := by
  refine cn_X5_puts (rr_f (by decide) ⟨vp_in_nI (by omega) (by omega), nm_e ⟨vp_in_nI (by omega) (by omega), nm_e ?_⟩⟩)
  rw [nI_clamp (by omega)]
  exact h
theorem M_puts_n {q : Int32 → DD → Prop} {d : DD} {i v : Int32} (h : q (-1) d) : Cn SM MX5_puts [.ref 0, .int 0, .int i, .int v] d (rI q) := cn_X5_puts (rr_t rfl h)
theorem M_any {q : Int32 → DD → Prop} {d : DD} {v lo hi : Int64} (h1 : q 1 d) (h0 : q 0 d) : Cn SM MX5_in [.long v, .long lo, .long hi] d (rI q) := M_inL (fun _ _ => h1) (fun _ => h0)
theorem ge1_of {n : Nat} {v : Int32} : (∃ j, 1 ≤ j ∧ j ≤ n ∧ v = nI j) ∨ ∀ j, 1 ≤ j → j ≤ n → v ≠ nI j := by
  by_cases h : ∃ j, 1 ≤ j ∧ j ≤ n ∧ v = nI j
  · exact Or.inl h
  · exact Or.inr (fun j h1 hj e => h ⟨j, h1, hj, e⟩)
theorem X_w1_y {q : Int32 → DD → Prop} {d : DD} {j n : Nat} (hn : n < 2 ^ 31) (h1 : 1 ≤ j) (hj : j ≤ n) (h : q 1 d) : Cn SX MX4_within [.int (nI j), .int 1, .int (nI n)] d (rI q) := by
  refine X_within (fun _ _ => h) (fun z => absurd ⟨?_, (nI_leI (by omega) hn).mpr hj⟩ z)
  rw [li_1]; exact (nI_leI (by omega) (by omega)).mpr h1
theorem X_w1_n {q : Int32 → DD → Prop} {d : DD} {v : Int32} {n : Nat} (hn : n < 2 ^ 31) (hz : ∀ j, 1 ≤ j → j ≤ n → v ≠ nI j) (h : q 0 d) : Cn SX MX4_within [.int v, .int 1, .int (nI n)] d (rI q) := by
  refine X_within (fun a b => ?_) (fun _ => h)
  obtain ⟨j, hj, rfl⟩ := nI_of (x := v) (fun c => by have := i_lt.mp c; have := i_le.mp a; rw [show ((1 : Int32)).toInt = 1 from rfl, show ((0 : Int32)).toInt = 0 from rfl] at *; omega)
  rw [li_1] at a
  exact absurd rfl (hz j ((nI_leI (by omega) (by omega)).mp a) ((nI_leI (by omega) hn).mp b))
theorem M_w1_y {q : Int32 → DD → Prop} {d : DD} {j n : Nat} (hn : n < 2 ^ 31) (h1 : 1 ≤ j) (hj : j ≤ n) (h : q 1 d) : Cn SM MX5_in [.long (nI j).toInt64, .long 1, .long (lN n)] d (rI q) := by
  refine M_inL (fun _ _ => h) (fun z => absurd ?_ z)
  rw [Int32.toInt_toInt64, lN_toInt hn, nI_toInt (by omega), show ((1 : Int64)).toInt = 1 from rfl]
  omega
theorem M_w1_n {q : Int32 → DD → Prop} {d : DD} {v : Int32} {n : Nat} (hn : n < 2 ^ 31) (hz : ∀ j, 1 ≤ j → j ≤ n → v ≠ nI j) (h : q 0 d) : Cn SM MX5_in [.long v.toInt64, .long 1, .long (lN n)] d (rI q) := by
  refine M_inL (fun a b => ?_) (fun _ => h)
  rw [Int32.toInt_toInt64] at a b
  rw [lN_toInt hn] at b
  rw [show ((1 : Int64)).toInt = 1 from rfl] at a
  obtain ⟨j, hj, rfl⟩ := nI_of (x := v) (fun c => by have := i_lt.mp c; rw [show ((0 : Int32)).toInt = 0 from rfl] at this; omega)
  rw [nI_toInt hj] at a b
  exact absurd rfl (hz j (by omega) (by omega))
theorem two_write {x m : DD} {H : HH} {p0 p1 p2 : Int32} (hR : RelH H x m) : Two MX4_write MX5_write [.ref 0, .int p0, .int p1, .int p2] x m := by
  obtain ⟨ok, hX, hM, hO⟩ := id hR
  have o4 := ok.t4
  by_cases c : ∃ t i, t < nT H ∧ i < H 1 t ∧ p0 = nI t ∧ p1 = nI i
  · obtain ⟨t, i, ht, hi, rfl, rfl⟩ := c
    have o8 := (ok.tt ht).2.2.1
    rcases ge_of (n := 10) (v := p2) (by omega) with ⟨v, hv, rfl⟩ | hz2
    · refine two_chg (nI (H 4 (8 * t + i))) _ _ (hR.put (f := 4) (i := 8 * t + i) (v := v) (by omega) (show 8 * t + i < 32 by omega) ⟨by simp, by simp, by simp, by simp, fun _ => (by omega), by simp, by simp, by simp, by simp, by simp⟩ (fun c => absurd c (by decide)) rfl rfl) (cn_X4_write (X_hasNote isH1 hX ok (fun t' i' _ _ _ _ => y1' (X_win_y (n := 9) (by omega) (by omega) (y1 ?_))) (fun z => (z t i ht hi rfl rfl).elim))) (cn_X5_write (M_isNote hM ok (fun t' i' _ _ _ _ => y1' (M_win_y (n := 9) (by omega) (by omega) (y1' (bk_X5_write_27 ?_)))) (fun z => (z t i ht hi rfl rfl).elim)))
      · rw [show nI t * 8 + nI i = nI (8 * t + i) from by rw [li_8, pk_mul, nI_add, Nat.mul_comm]]
        exact X_exch rfl (by omega) (by omega) ⟨hX.score ht hi, rfl⟩
      · rw [show 16 + (8 * nI t) + nI i = nI (16 + (8 * t + i)) from by rw [li_8, li_16, pk_mul, nI_add, nI_add, Nat.add_assoc]]
        exact M_puts_y (by omega) ⟨hM.score ht hi, rfl⟩
    · exact two_ask hR (-1) (cn_X4_write (X_hasNote isH1 hX ok (fun t' i' _ _ _ _ => y1' (X_win_n (n := 9) (by omega) hz2 (y0 ⟨rfl, XK.rf⟩))) (fun z => (z t i ht hi rfl rfl).elim))) (cn_X5_write (M_isNote hM ok (fun t' i' _ _ _ _ => y1' (M_win_n (n := 9) (by omega) hz2 (y0' (bk_X5_write_27 (M_puts_n ⟨rfl, MK.rf⟩))))) (fun z => (z t i ht hi rfl rfl).elim)))
  · exact two_ask hR (-1) (cn_X4_write (X_hasNote isH1 hX ok (fun t i h1 h2 h3 h4 => absurd ⟨t, i, h1, h2, h3, h4⟩ c) (fun _ => y0' ⟨rfl, XK.rf⟩))) (cn_X5_write (M_isNote hM ok (fun t i h1 h2 h3 h4 => absurd ⟨t, i, h1, h2, h3, h4⟩ c) (fun _ => y0' (bk_X5_write_27 (M_puts_n ⟨rfl, MK.rf⟩)))))
theorem two_bind {x m : DD} {H : HH} {p0 p1 : Int32} (hR : RelH H x m) : Two MX4_bind MX5_bind [.ref 0, .int p0, .int p1] x m := by
  obtain ⟨ok, hX, hM, hO⟩ := id hR
  have o4 := ok.t4
  have o6 := ok.b6
  rcases ge_of (n := nB H) (v := p0) (by omega) with ⟨p, hp, rfl⟩ | hz
  · rcases ge_of (n := nT H) (v := p1) (by omega) with ⟨t, ht, rfl⟩ | hz2
    · have hb := ok.bb hp
      by_cases c : H 9 p = t
      · refine two_ask hR (-2) (cn_X4_bind (cn_X0_rebind isH1 (X_hasPrisoner_y isH1 hX ok hp (y1' (X_hasTune_y isH1 hX ok ht (y1 ⟨vp_in_nI (by omega) (by omega), rr_t ?_ ⟨rfl, XK.rf⟩⟩)))))) (cn_X5_bind (cn_X5_binds (M_isBound_y hM ok hp (y1' (M_isTune_y hM ok ht (y1 ?_))))))
        · rw [nI_clamp (by omega), hX.bond hp, c]
        · rw [show (64 : Int32) + nI p = nI (64 + p) from nI_add 64 p]
          refine ⟨vp_in_nI (by omega) (by omega), rr_t ?_ ⟨rfl, MK.rf⟩⟩
          rw [nI_clamp (by omega), hM.bond hp, c]
      · have c' : ¬ nI (H 9 p) = nI t := fun z => c (nI_inj (by omega) (by omega) z)
        refine two_chg (nI (H 9 p)) _ _ (hR.put (f := 9) (i := p) (v := t) (by omega) (show p < 6 by omega) ⟨by simp, by simp, by simp, by simp, by simp, by simp, by simp, by simp, by simp, fun _ => ht⟩ (fun c => absurd c (by decide)) rfl rfl) (cn_X4_bind (cn_X0_rebind isH1 (X_hasPrisoner_y isH1 hX ok hp (y1' (X_hasTune_y isH1 hX ok ht (y1 ⟨vp_in_nI (by omega) (by omega), rr_f ?_ (X_exch rfl (by omega) (by omega) ⟨hX.bond hp, rfl⟩)⟩)))))) (cn_X5_bind (cn_X5_binds (M_isBound_y hM ok hp (y1' (M_isTune_y hM ok ht (y1 ?_))))))
        · rw [nI_clamp (by omega), hX.bond hp]; exact c'
        · rw [show (64 : Int32) + nI p = nI (64 + p) from nI_add 64 p]
          refine ⟨vp_in_nI (by omega) (by omega), rr_f ?_ (M_puts_y (by omega) ⟨hM.bond hp, rfl⟩)⟩
          rw [nI_clamp (by omega), hM.bond hp]; exact c'
    · exact two_ask hR (-1) (cn_X4_bind (cn_X0_rebind isH1 (X_hasPrisoner_y isH1 hX ok hp (y1' (X_hasTune_n isH1 hX ok hz2 (y0 ⟨rfl, XK.rf⟩)))))) (cn_X5_bind (cn_X5_binds (M_isBound_y hM ok hp (y1' (M_isTune_n hM ok hz2 (y0 ⟨rfl, MK.rf⟩))))))
  · exact two_ask hR (-1) (cn_X4_bind (cn_X0_rebind isH1 (X_hasPrisoner_n isH1 hX ok hz (y0' ⟨rfl, XK.rf⟩)))) (cn_X5_bind (cn_X5_binds (M_isBound_n hM ok hz (y0' ⟨rfl, MK.rf⟩))))
theorem M_set_no {q : Int32 → DD → Prop} {d : DD} {H : HH} {p0 p1 p2 : Int32} (hM : MH 0 d H) (ok : OKH H) (hz : ∀ j, j < nT H → p0 ≠ nI j) (h : q (-1) d) : Cn SM MX5_set [.ref 0, .int p0, .int p1, .int p2] d (rI q) := by
  have b : ∀ k0, Ev SM MX5_set 55 [.ref 0, .int p0, .int p1, .int p2, uJ] [.int k0] d (rI q) := fun k0 => bk_X5_set_55 (M_isTune_n hM ok hz (y0' (M_puts_n h)))
  exact cn_X5_set ⟨fun _ => ⟨fun _ => ⟨fun _ => b 0, fun _ => M_any (y1' (b 1)) (y0' (b 0))⟩, fun _ => M_any (b 1) (b 0)⟩, fun _ => M_any (b 1) (b 0)⟩
theorem M_set_b0 {q : Int32 → DD → Prop} {d : DD} {H : HH} {t : Nat} {p1 p2 : Int32} (hM : MH 0 d H) (ok : OKH H) (ht : t < nT H) (h : q (-1) d) : Ev SM MX5_set 55 [.ref 0, .int (nI t), .int p1, .int p2, uJ] [.int 0] d (rI q) := bk_X5_set_55 (M_isTune_y hM ok ht (y1' (br_t rfl (M_puts_n h))))
theorem M_set_b1 {q : Int32 → DD → Prop} {d : DD} {H : HH} {t w : Nat} {p2 : Int32} (hM : MH 0 d H) (ok : OKH H) (ht : t < nT H) (hw : w < 4) (h : q (d 1 (4 * w + t)) (up d 1 (4 * w + t) p2)) : Ev SM MX5_set 55 [.ref 0, .int (nI t), .int (nI w), .int p2, uJ] [.int 1] d (rI q) := by
  have o4 := ok.t4
  refine bk_X5_set_55 (M_isTune_y hM ok ht (y1' (br_f (by decide) ?_)))
  rw [show (4 : Int32) * nI w + nI t = nI (4 * w + t) from by rw [li_4, pk_mul, nI_add]]
  exact M_puts_y (by omega) h
theorem two_set {x m : DD} {H : HH} {p0 p1 p2 : Int32} (hR : RelH H x m) : Two MX4_set MX5_set [.ref 0, .int p0, .int p1, .int p2] x m := by
  obtain ⟨ok, hX, hM, hO⟩ := id hR
  have o4 := ok.t4
  rcases ge_of (n := nT H) (v := p0) (by omega) with ⟨t, ht, rfl⟩ | hz
  · by_cases c0 : p1 = 0
    · subst c0
      rcases ge_of (n := 4) (v := p2) (by omega) with ⟨v, hv, rfl⟩ | hz2
      · refine two_chg (nI (H 0 t)) _ _ (hR.put (f := 0) (i := t) (v := v) (by omega) (show t < 4 by omega) ⟨fun _ => (by omega), by simp, by simp, by simp, by simp, by simp, by simp, by simp, by simp, by simp⟩ (fun c => absurd c (by decide)) rfl rfl) (cn_X4_set (X_hasTune_y isH1 hX ok ht (y1 (br_t rfl (X_win_y (n := 3) (by omega) (by omega) (y1' (X_exch rfl (by omega) (by omega) ⟨hX.kind ht, rfl⟩))))))) (cn_X5_set (rr_t rfl (M_win_y (n := 3) (by omega) (by omega) (M_set_b1 (w := 0) hM ok ht (by omega) ?_))))
        rw [show 4 * 0 + t = t by omega]
        refine ⟨hM.kind ht, ?_⟩
        rw [show po 0 = 0 from rfl, Nat.zero_add]
      · exact two_ask hR (-1) (cn_X4_set (X_hasTune_y isH1 hX ok ht (y1 (br_t rfl (X_win_n (n := 3) (by omega) hz2 (y0' ⟨rfl, XK.rf⟩)))))) (cn_X5_set (rr_t rfl (M_win_n (n := 3) (by omega) hz2 (M_set_b0 hM ok ht ⟨rfl, MK.rf⟩))))
    · by_cases c1 : p1 = 1
      · subst c1
        exact two_ask hR (-1) (cn_X4_set (X_hasTune_y isH1 hX ok ht (y1 (br_f c0 (br_t rfl ⟨rfl, XK.rf⟩))))) (cn_X5_set (rr_f c0 (rr_f (by decide) (rr_f (by decide) (M_set_b0 hM ok ht ⟨rfl, MK.rf⟩)))))
      · by_cases c2 : p1 = 2
        · subst c2
          rcases ge1_of (n := 9) (v := p2) with ⟨v, hv1, hv, rfl⟩ | hz2
          · exact two_chg (nI (H 2 t)) _ _ (hR.put (f := 2) (i := t) (v := v) (by omega) (show t < 4 by omega) ⟨by simp, by simp, fun _ => ⟨hv1, hv⟩, by simp, by simp, by simp, by simp, by simp, by simp, by simp⟩ (fun c => absurd c (by decide)) rfl rfl) (cn_X4_set (X_hasTune_y isH1 hX ok ht (y1 (br_f c0 (br_f c1 (br_t rfl (X_w1_y (n := 9) (by omega) hv1 hv (y1' (X_exch rfl (by omega) (by omega) ⟨hX.times ht, rfl⟩))))))))) (cn_X5_set (rr_f c0 (rr_t rfl (M_w1_y (n := 9) (by omega) hv1 hv (M_set_b1 (w := 2) hM ok ht (by omega) ⟨hM.times ht, rfl⟩)))))
          · exact two_ask hR (-1) (cn_X4_set (X_hasTune_y isH1 hX ok ht (y1 (br_f c0 (br_f c1 (br_t rfl (X_w1_n (n := 9) (by omega) hz2 (y0' ⟨rfl, XK.rf⟩)))))))) (cn_X5_set (rr_f c0 (rr_t rfl (M_w1_n (n := 9) (by omega) hz2 (M_set_b0 hM ok ht ⟨rfl, MK.rf⟩)))))
        · by_cases c3 : p1 = 3
          · subst c3
            rcases ge_of (n := 10) (v := p2) (by omega) with ⟨v, hv, rfl⟩ | hz2
            · exact two_chg (nI (H 3 t)) _ _ (hR.put (f := 3) (i := t) (v := v) (by omega) (show t < 4 by omega) ⟨by simp, by simp, by simp, fun _ => (by omega), by simp, by simp, by simp, by simp, by simp, by simp⟩ (fun c => absurd c (by decide)) rfl rfl) (cn_X4_set (X_hasTune_y isH1 hX ok ht (y1 (br_f c0 (br_f c1 (br_f c2 (br_t rfl (X_win_y (n := 9) (by omega) (by omega) (y1' (X_exch rfl (by omega) (by omega) ⟨hX.start ht, rfl⟩)))))))))) (cn_X5_set (rr_f c0 (rr_f c2 (rr_t rfl (M_win_y (n := 9) (by omega) (by omega) (y1' (M_set_b1 (w := 3) hM ok ht (by omega) ⟨hM.start ht, rfl⟩)))))))
            · exact two_ask hR (-1) (cn_X4_set (X_hasTune_y isH1 hX ok ht (y1 (br_f c0 (br_f c1 (br_f c2 (br_t rfl (X_win_n (n := 9) (by omega) hz2 (y0' ⟨rfl, XK.rf⟩))))))))) (cn_X5_set (rr_f c0 (rr_f c2 (rr_t rfl (M_win_n (n := 9) (by omega) hz2 (y0' (M_set_b0 hM ok ht ⟨rfl, MK.rf⟩)))))))
          · exact two_ask hR (-1) (cn_X4_set (X_hasTune_y isH1 hX ok ht (y1 (br_f c0 (br_f c1 (br_f c2 (br_f c3 ⟨rfl, XK.rf⟩))))))) (cn_X5_set (rr_f c0 (rr_f c2 (rr_f c3 (M_set_b0 hM ok ht ⟨rfl, MK.rf⟩)))))
  · exact two_ask hR (-1) (cn_X4_set (X_hasTune_n isH1 hX ok hz (y0 ⟨rfl, XK.rf⟩))) (M_set_no hM ok hz ⟨rfl, MK.rf⟩)
