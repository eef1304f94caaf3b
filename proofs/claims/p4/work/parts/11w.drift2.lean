theorem MB.dr {m d : DD} {v : Int32} (h : MB m d) : MB m (up d 0 29 v) := by
  obtain ⟨⟨a1, a2, a3⟩, a4⟩ := h
  exact ⟨⟨fun j hj => by rw [up_n (by omega)]; exact a1 j hj, fun j h1 h2 => by rw [up_ne 1 (by omega)]; exact a2 j h1 h2, fun a ha => by rw [up_ne a (by omega)]; exact a3 a ha⟩, fun i hi => by rw [up_ne 1 (by omega)]; exact a4 i hi⟩
theorem MH.dr {d : DD} {H : HH} {v : Int32} (h : MH 0 d H) (ok : OKH H) : MH 0 (up d 0 29 v) H := h.kept (fun j _ _ => up_n (by omega)) (fun j _ _ => by rw [up_ne 1 (by omega)]) ok
theorem M_draws {q : Int32 → DD → Prop} {d : DD} {s : Int32} (e : d 0 29 = s) (h : q (nI (mid (sd s))) (up d 0 29 (sd s))) : Cn SM MX5_draws [.ref 0] d (rI q) := by
  refine cn_X5_draws (nm_e ?_)
  rw [up_s, e, show s * 1103515245 + 12345 = sd s from rfl, (mid_n (sd s)).1]
  exact h
theorem M_drift_56 {q : Int32 → DD → Prop} {m d : DD} {H : HH} {n w : Nat} {s : Int32} (ok : OKH H) (hs : m 0 26 = nI 0) (hT : 0 < nT H) (hn : n ≤ 20) (hw : w < 2) (hk0 : MB m d) (hM0 : MH 0 d H) (hz : d 0 29 = s) (h : ∀ d', MK m d' → q (driV H s n w) d') : Ev SM MX5_drift 56 [.ref 0, .int s, .int (nI n), .int (nI w), .int (nI 0), .int (nI 0), .int (nI 0), uJ, uJ, uJ] [] d (rI q) := by
  refine for_up (W := fun k d' => Ev SM MX5_drift 56 [.ref 0, .int s, .int (nI n), .int (nI w), .int (nI (driM H s k)), .int (nI (driC H s k)), .int (nI k), uJ, uJ, uJ] [] d' (rI q)) (I := fun k d' => MB m d' ∧ MH 0 d' (driH H s k) ∧ d' 0 29 = driZ s k) n ?_ ?_ 0 d (Nat.zero_le _) ⟨hk0, hM0, hz⟩
  · rintro d' ⟨g1, g2, g3⟩
    refine bk_X5_drift_56 (br_t (nI_le (Nat.le_refl _) (by omega)) (M_copies (f := 280) (t := 0) (by omega) (by omega) (by omega) fun d4 u1 u2 u3 => ?_))
    have h := h d4 (g1.fin u1 u2 u3)
    unfold driV at h
    rcases (show w = 0 ∨ w = 1 by omega) with rfl | rfl
    · exact rr_t rfl h
    · exact rr_f (by decide) h
  · rintro k d' hk ⟨g1, g2, g3⟩ ih
    obtain ⟨okc, h10⟩ := driH_ok (s := s) ok k
    have hTc : nT (driH H s k) = nT H := h10 0
    have hmo := driM_le (s := s) ok k
    have hal : driA H s k ≤ 6 := awayS_le (driH_ok ok (k + 1)).1
    have o4 := okc.t4
    have m1b := (mid_n (sd (driZ s k))).2
    have m2b := (mid_n (sd (sd (driZ s k)))).2
    have ht := Nat.mod_lt (mid (sd (driZ s k))) (show 0 < nT (driH H s k) by omega)
    have ih := fun d2 a b c => ih d2 ⟨a, b, c⟩
    have okd : OKH (driH H s (k + 1)) := (driH_ok ok (k + 1)).1
    have ez : driZ s (k + 1) = sd (sd (driZ s k)) := rfl
    have ec : driC H s (k + 1) = driC H s k + driB H s k := rfl
    refine bk_X5_drift_56 (br_f (fun c => absurd ((nI_leI (by omega) (by omega)).mp c) (by omega)) (M_draws g3 ?_))
    have q2 := g2.dr (v := sd (driZ s k)) okc
    have p2 := g1.dr (v := sd (driZ s k))
    rw [q2.nt]
    refine ⟨fun c => absurd (nI_inj (b := 0) (by omega) (by omega) c) (by omega), nm_e (M_draws (s := sd (driZ s k)) up_s ?_)⟩
    have q3 := q2.dr (v := sd (sd (driZ s k))) okc
    have p3 := p2.dr (v := sd (sd (driZ s k)))
    have r3 : up (up d' 0 29 (sd (driZ s k))) 0 29 (sd (sd (driZ s k))) 0 29 = sd (sd (driZ s k)) := up_s
    generalize up (up d' 0 29 (sd (driZ s k))) 0 29 (sd (sd (driZ s k))) = d3 at q3 p3 r3 ⊢
    clear q2 p2
    rw [jrem_nI (by omega) (by omega) (by omega), show (4 : Int32) + nI (mid (sd (driZ s k)) % nT (driH H s k)) = nI (4 + mid (sd (driZ s k)) % nT (driH H s k)) from nI_add 4 _, nI_clamp (by omega), q3.notes ht]
    have ot := okc.tt ht
    have n1 := ot.2.1
    have n8 := ot.2.2.1
    have hm := Nat.mod_lt (mid (sd (sd (driZ s k)))) (show 0 < driH H s k 1 (mid (sd (driZ s k)) % nT (driH H s k)) by omega)
    refine ⟨vp_in_nI (by omega) (by omega), fun c => absurd (nI_inj (b := 0) (by omega) (by omega) c) (by omega), ?_⟩
    rw [jrem_nI (by omega) (by omega) (by omega), show 16 + 8 * nI (mid (sd (driZ s k)) % nT (driH H s k)) + nI (mid (sd (sd (driZ s k))) % driH H s k 1 (mid (sd (driZ s k)) % nT (driH H s k))) = nI (16 + (8 * (mid (sd (driZ s k)) % nT (driH H s k)) + mid (sd (sd (driZ s k))) % driH H s k 1 (mid (sd (driZ s k)) % nT (driH H s k)))) from by rw [li_8, li_16, pk_mul, nI_add, nI_add, Nat.add_assoc], li_10, pk_div (by omega) (by omega) (by omega), jrem_nI (Nat.lt_of_le_of_lt (Nat.div_le_self _ _) (by omega)) (by omega) (by omega)]
    refine ⟨vp_in_nI (by omega) (by omega), nm_e ?_⟩
    rw [nI_clamp (by omega)]
    have hd := q3.put (f := 4) (i := 8 * (mid (sd (driZ s k)) % nT (driH H s k)) + mid (sd (sd (driZ s k))) % driH H s k 1 (mid (sd (driZ s k)) % nT (driH H s k))) (v := mid (sd (sd (driZ s k))) / 10 % 10) okc (by omega) (show _ < 32 by omega) (fun z => absurd z (by decide)) (fun z => absurd z (by decide))
    rw [Nat.zero_add] at hd
    have p4 : MB m (up d3 1 (16 + (8 * (mid (sd (driZ s k)) % nT (driH H s k)) + mid (sd (sd (driZ s k))) % driH H s k 1 (mid (sd (driZ s k)) % nT (driH H s k)))) (nI (mid (sd (sd (driZ s k))) / 10 % 10))) := p3.row (fun a ha => up_ne a ha) (fun j hj => up_n (by omega))
    have r4 : up d3 1 (16 + (8 * (mid (sd (driZ s k)) % nT (driH H s k)) + mid (sd (sd (driZ s k))) % driH H s k 1 (mid (sd (driZ s k)) % nT (driH H s k)))) (nI (mid (sd (sd (driZ s k))) / 10 % 10)) 0 29 = sd (sd (driZ s k)) := by rw [up_ne 0 (by omega)]; exact r3
    have hd : MH 0 (up d3 1 (16 + (8 * (mid (sd (driZ s k)) % nT (driH H s k)) + mid (sd (sd (driZ s k))) % driH H s k 1 (mid (sd (driZ s k)) % nT (driH H s k)))) (nI (mid (sd (sd (driZ s k))) / 10 % 10))) (driH H s (k + 1)) := hd
    generalize up d3 1 (16 + (8 * (mid (sd (driZ s k)) % nT (driH H s k)) + mid (sd (sd (driZ s k))) % driH H s k 1 (mid (sd (driZ s k)) % nT (driH H s k)))) (nI (mid (sd (sd (driZ s k))) / 10 % 10)) = d5 at hd p4 r4 ⊢
    refine M_awayMany (sil := 0) hd okd (by rw [p4.sil]; exact hs) (by omega) fun d6 v1 v2 => ?_
    have := ih d6 (p4.mf v1) (hd.mf okd v1) (by rw [v1 0 (by omega)]; exact r4)
    rw [driM_s, ec] at this
    have c2 : nI (driA H s k) ≤ nI (driM H s k) ↔ driA H s k ≤ driM H s k := nI_leI (by omega) (by omega)
    have cost := fun (q' : Int32 → DD → Prop) (hq : q' (nI (driB H s k)) d6) => M_cost (q := q') (hd.mf okd v1) okd v2 hq
    by_cases z : driM H s k < driA H s k
    · rw [if_pos z] at this
      refine br_f (fun c => absurd (c2.mp c) (by omega)) (cost _ ?_)
      rw [nI_add, nI_1]; exact this
    · rw [if_neg z] at this
      refine br_t (c2.mpr (by omega)) (cost _ ?_)
      rw [nI_add, nI_1]; exact this
theorem two_drift {x m : DD} {H : HH} {p0 p1 p2 : Int32} (hR : RelH H x m) : Two MX4_drift MX5_drift [.ref 0, .int p0, .int p1, .int p2] x m := by
  obtain ⟨ok, hX, hM, hO⟩ := id hR
  have o4 := ok.t4
  have iH : isH 23 := by unfold isH; omega
  rcases ge1_of (n := 20) (v := p1) with ⟨n, hn1, hn, rfl⟩ | hz
  · rcases ge_of (n := 2) (v := p2) (by omega) with ⟨w, hw, rfl⟩ | hz2
    · rcases Nat.eq_zero_or_pos (nT H) with z | z
      · refine two_ask hR (-2) (cn_X4_drift (X_w1_y (n := 20) (by omega) hn1 hn (y1' (X_win_y (n := 1) (by omega) (by omega) (y1 (br_f ?_ ⟨rfl, XK.rf⟩)))))) (cn_X5_drift (M_w1_y (n := 20) (by omega) hn1 hn (y1' (M_win_y (n := 1) (by omega) (by omega) (y1 (rr_t ?_ ⟨rfl, MK.rf⟩))))))
        · rw [hX.nt, z]; decide
        · rw [hM.nt, z]; rfl
      · refine two_ask hR (driV H p0 n w) (cn_X4_drift (X_w1_y (n := 20) (by omega) hn1 hn (y1' (X_win_y (n := 1) (by omega) (by omega) (y1 (br_t ?_ ?_)))))) (cn_X5_drift (M_w1_y (n := 20) (by omega) hn1 hn (y1' (M_win_y (n := 1) (by omega) (by omega) (y1 (rr_f ?_ ?_))))))
        · rw [hX.nt, li_1]; exact (nI_leI (by omega) (by omega)).mpr z
        · exact X_becomeH iH isH1 (by omega) hX ok fun d2 g1 g2 => X_drift_58 ok z hn hw (fun a ha => g1 a (by omega)) g2 fun d3 g3 => ⟨rfl, g3⟩
        · rw [hM.nt]; exact fun c => absurd (nI_inj (b := 0) (by omega) (by omega) c) (by omega)
        · exact M_copies (f := 0) (t := 280) (by omega) (by omega) (by omega) fun d2 g1 g2 g3 => nm_e (M_drift_56 ok hO.sil z hn hw (MB.beg MK.rf g1 g2 g3).dr ((hM.kept (fun j _ _ => by rw [g1 0 (by omega)]) (fun j _ _ => g2 j (by omega)) ok).dr ok) up_s fun d3 g4 => ⟨rfl, g4⟩)
    · exact two_ask hR (-1) (cn_X4_drift (X_w1_y (n := 20) (by omega) hn1 hn (y1' (X_win_n (n := 1) (by omega) hz2 (y0 ⟨rfl, XK.rf⟩))))) (cn_X5_drift (M_w1_y (n := 20) (by omega) hn1 hn (y1' (M_win_n (n := 1) (by omega) hz2 (y0 ⟨rfl, MK.rf⟩)))))
  · exact two_ask hR (-1) (cn_X4_drift (X_w1_n (n := 20) (by omega) hz (y0' ⟨rfl, XK.rf⟩))) (cn_X5_drift (M_w1_n (n := 20) (by omega) hz (y0' ⟨rfl, MK.rf⟩)))
