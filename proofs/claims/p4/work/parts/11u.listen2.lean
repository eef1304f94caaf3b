theorem alk_no {H : HH} {t K m k : Nat} (h : K.testBit k = false) : ∀ o, alk H t K m k o = 0 := by
  intro o
  induction o with
  | zero => rfl
  | succ o ih => rw [alk_s, ih]; unfold alkB; rw [h, Bool.false_and, Bool.false_and]; rfl
theorem M_listen_53 {q : Int32 → DD → Prop} {d : DD} {H : HH} {t w K mi : Nat} {l4 l5 : Int32} (hM : MH 0 d H) (ok : OKH H) (ht : t < nT H) (hK : K < 16) (hm : mi < 160) (h : Ev SM MX5_listen 53 [.ref 0, .int (nI t), .int (nI w), .int (nI K), .int l4, .int l5, .int (nI mi), .int (nI (wst H t K mi 4)), .int (nI 4), uJ, uJ] [] d (rI q)) : Ev SM MX5_listen 53 [.ref 0, .int (nI t), .int (nI w), .int (nI K), .int l4, .int l5, .int (nI mi), .int (nI 0), .int (nI 0), uJ, uJ] [] d (rI q) := by
  refine for_up (W := fun k d' => Ev SM MX5_listen 53 [.ref 0, .int (nI t), .int (nI w), .int (nI K), .int l4, .int l5, .int (nI mi), .int (nI (wst H t K mi k)), .int (nI k), uJ, uJ] [] d' (rI q)) (I := fun _ d' => d' = d) 4 ?_ ?_ 0 d (Nat.zero_le _) rfl
  · rintro d' rfl
    exact h
  · rintro k d' hk rfl ih
    have hw := wst_le (H := H) (t := t) (K := K) (m := mi) k
    have ha := alk_le (H := H) (t := t) (K := K) (m := mi) (k := k) (o := 4)
    have nx := ih d' rfl
    rw [wst_s] at nx
    have ex : ∀ v, v = alk H t K mi k 4 → ((nI v ≤ nI (wst H t K mi k) → Ev SM MX5_listen 53 [.ref 0, .int (nI t), .int (nI w), .int (nI K), .int l4, .int l5, .int (nI mi), .int (nI (wst H t K mi k)), .int (nI k + 1), uJ, uJ] [] d' (rI q)) ∧ (¬ nI v ≤ nI (wst H t K mi k) → Ev SM MX5_listen 53 [.ref 0, .int (nI t), .int (nI w), .int (nI K), .int l4, .int l5, .int (nI mi), .int (nI v), .int (nI k + 1), uJ, uJ] [] d' (rI q))) := by
      intro v e
      subst e
      rw [nI_1]
      have c2 : nI (alk H t K mi k 4) ≤ nI (wst H t K mi k) ↔ alk H t K mi k 4 ≤ wst H t K mi k := nI_leI (by omega) (by omega)
      by_cases z : wst H t K mi k < alk H t K mi k 4
      · rw [if_pos z] at nx; exact br_f (fun c => absurd (c2.mp c) (by omega)) nx
      · rw [if_neg z] at nx; exact br_t (c2.mpr (by omega)) nx
    refine bk_X5_listen_53 (br_f ?_ ?_)
    · rw [li_4]; exact fun c => absurd ((nI_leI (by omega) (by omega)).mp c) (by omega)
    · rw [li_0]
      cases hk1 : K.testBit k
      · refine bk_X5_listen_65 (br_f (by decide) (rr_f ?_ (ex 0 (alk_no hk1 4).symm)))
        rw [bit_of (by omega) (by omega), hk1]; decide
      · refine for_up (W := fun o d2 => Ev SM MX5_listen 65 [.ref 0, .int (nI t), .int (nI w), .int (nI K), .int l4, .int l5, .int (nI mi), .int (nI (wst H t K mi k)), .int (nI k), .int (nI (alk H t K mi k o)), .int (nI o)] [] d2 (rI q)) (I := fun _ d2 => d2 = d') 4 ?_ ?_ 0 d' (Nat.zero_le _) rfl
        · rintro d2 rfl
          exact bk_X5_listen_65 (br_t (by decide) (ex _ rfl))
        · rintro o d2 ho rfl ih2
          have := ih2 d2 rfl
          rw [alk_s] at this
          unfold alkB at this
          rw [hk1, Bool.true_and] at this
          refine bk_X5_listen_65 (br_f ?_ (rr_t ?_ ?_))
          · rw [li_4]; exact fun c => absurd ((nI_leI (by omega) (by omega)).mp c) (by omega)
          · rw [bit_of (by omega) (by omega), hk1]; rfl
          · rw [bit_of (by omega) (by omega), nI_1, nI_1, show nI (alk H t K mi k o) + 0 = nI (alk H t K mi k o + 0) from nI_add _ 0]
            cases hk2 : K.testBit o
            · rw [hk2, Bool.false_and] at this
              exact rr_f (by decide) this
            · rw [hk2, Bool.true_and] at this
              refine rr_t rfl (M_noteBy hM ok ht (by omega) hm (M_noteBy hM ok ht (by omega) hm ?_))
              by_cases y : noteB H t k mi = noteB H t o mi
              · rw [decide_eq_true y] at this; exact rr_t y this
              · rw [decide_eq_false y] at this; exact rr_f y this
theorem M_listen_39 {q : Int32 → DD → Prop} {d : DD} {H : HH} {t w K : Nat} (hM : MH 0 d H) (ok : OKH H) (ht : t < nT H) (hK : K < 16) (hw : w < 2) (h : q (lisV (lisS H t K 160) w) d) : Ev SM MX5_listen 39 [.ref 0, .int (nI t), .int (nI w), .int (nI K), .int (nI (bitsN K 6)), .int (-4), .int (nI 0), uJ, uJ, uJ, uJ] [] d (rI q) := by
  refine for_up (W := fun i d' => Ev SM MX5_listen 39 [.ref 0, .int (nI t), .int (nI w), .int (nI K), .int (nI (lisS H t K i).1), .int (mv (lisS H t K i).2), .int (nI i), uJ, uJ, uJ, uJ] [] d' (rI q)) (I := fun _ d' => d' = d) 160 ?_ ?_ 0 d (Nat.zero_le _) rfl
  · rintro d' rfl
    have hl := lisS_le (H := H) (t := t) (K := K) 160
    refine bk_X5_listen_39 (br_t (by decide) ?_)
    unfold lisV at h
    unfold mv
    by_cases z : (lisS H t K 160).2 = 0
    · rw [if_pos z] at h; rw [if_pos z]
      exact br_t rfl h
    · rw [if_neg z] at h; rw [if_neg z]
      refine br_f (ne_m4 (by omega)) ?_
      rcases (show w = 0 ∨ w = 1 by omega) with rfl | rfl
      · exact rr_t rfl h
      · exact rr_f (by decide) h
  · rintro i d' hi rfl ih
    have hl := lisS_le (H := H) (t := t) (K := K) i
    have hw4 := wst_le (H := H) (t := t) (K := K) (m := i) 4
    have := ih d' rfl
    rw [lisS_s] at this
    refine bk_X5_listen_39 (br_f ?_ (M_listen_53 hM ok ht hK hi (bk_X5_listen_53 (br_t (by decide) ?_))))
    · rw [li_159]; exact fun c => absurd ((nI_ltI (by omega) (by omega)).mp c) (by omega)
    · rw [nI_1]
      have c2 : nI (lisS H t K i).1 ≤ nI (wst H t K i 4) ↔ (lisS H t K i).1 ≤ wst H t K i 4 := nI_leI (by omega) (by omega)
      by_cases z : wst H t K i 4 < (lisS H t K i).1
      · rw [if_pos z, mv_s] at this
        have c3 : ¬ nI (lisS H t K i).1 ≤ nI (wst H t K i 4) := fun c => absurd (c2.mp c) (by omega)
        exact br_f c3 (br_f c3 this)
      · rw [if_neg z] at this
        have c3 := c2.mpr (show (lisS H t K i).1 ≤ wst H t K i 4 by omega)
        exact br_t c3 (br_t c3 this)
theorem two_listen {x m : DD} {H : HH} {p0 p1 : Int32} (hR : RelH H x m) : Two MX4_listen MX5_listen [.ref 0, .int p0, .int p1] x m := by
  obtain ⟨ok, hX, hM, hO⟩ := id hR
  have o4 := ok.t4
  obtain ⟨n, a1, a2, a3, a4⟩ := hO.2.1
  rcases ge_of (n := nT H) (v := p0) (by omega) with ⟨t, ht, rfl⟩ | hz
  · rcases ge_of (n := 2) (v := p1) (by omega) with ⟨w, hw, rfl⟩ | hz2
    · have hK : fitM H x t n < 16 := fitM_lt
      exact two_ask hR (lisV (lisS H t (fitM H x t n) 160) w) (cn_X4_listen (X_hasTune_y isH1 hX ok ht (y1' (X_win_y (n := 1) (by omega) (by omega) (y1 (X_fittingKinds hX ok ht a1 a2 a4 (X_bitCount (by omega) (X_listen_40 hX ok ht hK hw ⟨rfl, XK.rf⟩)))))))) (cn_X5_listen (M_isTune_y hM ok ht (y1' (M_win_y (n := 1) (by omega) (by omega) (y1 (M_kindsOf hM ok ht a1 a3 a4 (M_bitsOf (by omega) (M_listen_39 hM ok ht hK hw ⟨rfl, MK.rf⟩))))))))
    · exact two_ask hR (-1) (cn_X4_listen (X_hasTune_y isH1 hX ok ht (y1' (X_win_n (n := 1) (by omega) hz2 (y0 ⟨rfl, XK.rf⟩))))) (cn_X5_listen (M_isTune_y hM ok ht (y1' (M_win_n (n := 1) (by omega) hz2 (y0 ⟨rfl, MK.rf⟩)))))
  · exact two_ask hR (-1) (cn_X4_listen (X_hasTune_n isH1 hX ok hz (y0' ⟨rfl, XK.rf⟩))) (cn_X5_listen (M_isTune_n hM ok hz (y0' ⟨rfl, MK.rf⟩)))
