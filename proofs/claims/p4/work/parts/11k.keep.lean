/-! ===== keep, back, count ===== -/
theorem RelH.image {H : HH} {x m x' m' : DD} {k : Nat} (hR : RelH H x m) (hk : k < 2) (hT : RIm H x' m' k) (hx : ∀ a, a ≠ 35 → a < 52 + 11 * k ∨ 62 + 11 * k < a → x' a = x a) (h35 : ∀ j, j ≠ k → x' 35 j = x 35 j) (hm : ∀ a, a ≠ 1 → a ≠ 13 → m' a = m a) (h1 : ∀ j, j < 70 * (k + 1) ∨ 70 * (k + 1) + 70 ≤ j → m' 1 j = m 1 j) (h13 : ∀ j, j ≠ k → m' 13 j = m 13 j) : RelH H x' m' := by
  obtain ⟨ok, hX, hM, b1, b2, b3, b4, b5, b6, b7, b8⟩ := hR
  have hm0 := hm 0 (by omega) (by omega)
  refine ⟨ok, hX.kept (fun a _ _ => hx a (by omega) (by omega)), hM.kept (fun j _ _ => by rw [hm0]) (fun j _ _ => h1 j (by omega)) ok, b1.k (by rw [hx 36 (by omega) (by omega)]) (hx 37 (by omega) (by omega)) (by rw [hm0]) (hm 3 (by omega) (by omega)), b2.k (by rw [hx 0 (by omega) (by omega)]) (hx 49 (by omega) (by omega)) (hx 50 (by omega) (by omega)) (hx 51 (by omega) (by omega)) (by rw [hm0]) (hm 12 (by omega) (by omega)), fun i hi => ?_, fun i hi => (b4 i hi).k (hx _ (by omega) (by omega)) (hx _ (by omega) (by omega)) (by rw [hm 14 (by omega) (by omega)]) (by rw [hm 15 (by omega) (by omega)]) (fun j _ => by rw [hm 16 (by omega) (by omega)]), b5.k (hm 4 (by omega) (by omega)) (hm 5 (by omega) (by omega)), ?_, ?_, ?_⟩
  · by_cases c : i = k
    · subst c; exact hT
    · exact (b3 i hi).k (h35 i c) (fun a _ _ => hx a (by omega) (by omega)) (h13 i c) (fun j _ _ => by rw [hm0]) (fun j _ _ => h1 j (by omega))
  · rw [hm0]; exact b6
  · rw [hx 36 (by omega) (by omega), hm0]; exact b7
  · rw [hx 0 (by omega) (by omega), hm0]; exact b8
theorem imB_n {k : Nat} (hk : k < 2) : imB (nI k) = 52 + 11 * k := by unfold imB; rw [nI_clamp (by omega)]
theorem isH_im {k : Nat} (hk : k < 2) : isH (52 + 11 * k) := by unfold isH; omega
theorem keep_bit {H : HH} {x m : DD} {k : Nat} (h : RIm H x m k) : ∃ b, b < 2 ∧ x 35 k = nI b ∧ m 13 k = nI b := by
  rcases h with ⟨a, b⟩ | ⟨a, b, _⟩
  · exact ⟨0, (by omega), a, b⟩
  · exact ⟨1, (by omega), a, b⟩
theorem two_keep {x m : DD} {H : HH} {p0 : Int32} (hR : RelH H x m) : Two MX4_keep MX5_keep [.ref 0, .int p0] x m := by
  obtain ⟨ok, hX, hM, hO⟩ := id hR
  rcases ge_of (n := 2) (v := p0) (by omega) with ⟨k, hk, rfl⟩ | hz
  · have i2 : vp_in (nI k) 2 := vp_in_nI (by omega) (by omega)
    obtain ⟨b, hb, ex, em⟩ := keep_bit (hO.2.2.1 k hk)
    refine ⟨nI b, fun d => (∀ a, a ≠ 35 → a < 52 + 11 * k ∨ 62 + 11 * k < a → d a = x a) ∧ d 35 = up x 35 k 1 35 ∧ XH (52 + 11 * k) d H, fun d => (∀ a, a ≠ 1 → a ≠ 13 → d a = m a) ∧ (∀ j, j < 70 * (k + 1) ∨ 70 * (k + 1) + 70 ≤ j → d 1 j = m 1 j) ∧ d 13 = up m 13 k 1 13 ∧ MH (70 * (k + 1)) d H, cn_X4_keep (X_win_y (n := 1) (by omega) (by omega) (y1 ⟨i2, ?_⟩)), cn_X5_keep (M_win_y (n := 1) (by omega) (by omega) (y1 ?_)), ?_⟩
    · have fin : ∀ k0, k0 = nI b → Ev SX MX4_keep 25 [.ref 0, .int (nI k), uJ] [.int k0] x (rI fun r' d => r' = nI b ∧ (∀ a, a ≠ 35 → a < 52 + 11 * k ∨ 62 + 11 * k < a → d a = x a) ∧ d 35 = up x 35 k 1 35 ∧ XH (52 + 11 * k) d H) := by
        intro k0 e0
        refine bk_X4_keep_25 ⟨i2, fun b1 hb1 e => ?_⟩
        rw [imB_n hk] at e
        subst e
        refine X_becomeH hb1 isH1 (by omega) hX ok fun d' g1 g2 => ⟨i2, nm_e ⟨e0, fun a h1 h2 => ?_, ?_, ?_⟩⟩
        · rw [up_ne a (by omega)]; exact g1 a (by omega)
        · rw [nI_clamp (by omega)]; funext j
          by_cases z : j = k
          · subst z; rw [up_s, up_s]
          · rw [up_n (by omega), up_n (by omega), g1 35 (by omega)]
        · exact g2.kept (fun a _ _ => up_ne a (by omega))
      rw [nI_clamp (by omega), ex]
      rcases (show b = 0 ∨ b = 1 by omega) with rfl | rfl
      · exact br_t rfl (fin _ rfl)
      · exact br_f (by decide) (fin _ rfl)
    · rw [show (70 : Int32) * (nI k + 1) = nI (70 * (k + 1)) from by rw [nI_1, li_70, pk_mul]]
      refine M_copies (f := 0) (by omega) (by omega) (by omega) fun d' g1 g2 g3 => ⟨i2, ?_⟩
      have hM2 := hM.move (t := 70 * (k + 1)) ok g1 g3
      have fin : (fun d => (∀ a, a ≠ 1 → a ≠ 13 → d a = m a) ∧ (∀ j, j < 70 * (k + 1) ∨ 70 * (k + 1) + 70 ≤ j → d 1 j = m 1 j) ∧ d 13 = up m 13 k 1 13 ∧ MH (70 * (k + 1)) d H) (up d' 13 k 1) := by
        refine ⟨fun a h1 h2 => by rw [up_ne a h2]; exact g1 a h1, fun j hj => by rw [up_ne 1 (by omega)]; exact g2 j hj, ?_, hM2.kept (fun j _ _ => by rw [up_ne 0 (by omega)]) (fun j _ _ => by rw [up_ne 1 (by omega)]) ok⟩
        funext j
        by_cases z : j = k
        · subst z; rw [up_s, up_s]
        · rw [up_n (by omega), up_n (by omega), g1 13 (by omega)]
      rw [nI_clamp (by omega), g1 13 (by omega), em]
      rcases (show b = 0 ∨ b = 1 by omega) with rfl | rfl
      · exact br_t rfl ⟨i2, nm_e ⟨rfl, fin⟩⟩
      · exact br_f (by decide) ⟨i2, nm_e ⟨rfl, fin⟩⟩
    · rintro d d' ⟨a1, a2, a3⟩ ⟨b1, b2, b3, b4⟩
      exact (hR.image hk (Or.inr ⟨by rw [a2, up_s]; rfl, by rw [b3, up_s]; rfl, H, ok, fun _ => rfl, a3, b4⟩) a1 (fun j hj => by rw [a2, up_n (by omega)]) b1 b2 (fun j hj => by rw [b3, up_n (by omega)])).rel
  · exact two_ask hR (-1) (cn_X4_keep (X_win_n (n := 1) (by omega) hz (y0 ⟨rfl, XK.rf⟩))) (cn_X5_keep (M_win_n (n := 1) (by omega) hz (y0 ⟨rfl, MK.rf⟩)))
theorem two_back {x m : DD} {H : HH} {p0 : Int32} (hR : RelH H x m) : Two MX4_back MX5_back [.ref 0, .int p0] x m := by
  obtain ⟨ok, hX, hM, hO⟩ := id hR
  rcases ge_of (n := 2) (v := p0) (by omega) with ⟨k, hk, rfl⟩ | hz
  · have i2 : vp_in (nI k) 2 := vp_in_nI (by omega) (by omega)
    rcases hO.2.2.1 k hk with ⟨ex, em⟩ | ⟨ex, em, Hk, okk, h10, hXk, hMk⟩
    · refine two_ask hR (-2) (cn_X4_back (X_win_y (n := 1) (by omega) (by omega) (y1 ⟨i2, rr_t ?_ ⟨rfl, XK.rf⟩⟩))) (cn_X5_back (M_win_y (n := 1) (by omega) (by omega) (y1 ⟨i2, rr_t ?_ ⟨rfl, MK.rf⟩⟩)))
      · rw [nI_clamp (by omega)]; exact ex
      · rw [nI_clamp (by omega)]; exact em
    · refine ⟨nI (sumN (fun t => Hk 1 t) (nT Hk)), fun d => (∀ a, a < 1 ∨ 1 + 10 < a → d a = x a) ∧ XH 1 d Hk, fun d => (∀ a, a ≠ 1 → d a = m a) ∧ (∀ j, j < 0 ∨ 0 + 70 ≤ j → d 1 j = m 1 j) ∧ MH 0 d Hk, cn_X4_back (X_win_y (n := 1) (by omega) (by omega) (y1 ⟨i2, rr_f ?_ ⟨i2, fun b5 hb5 e => ?_⟩⟩)), cn_X5_back (M_win_y (n := 1) (by omega) (by omega) (y1 ⟨i2, rr_f ?_ ?_⟩)), ?_⟩
      · rw [nI_clamp (by omega), ex]; decide
      · rw [imB_n hk] at e
        subst e
        exact X_becomeH isH1 hb5 (by omega) hXk okk fun d' g1 g2 => X_allNotes isH1 g2 okk ⟨rfl, g1, g2⟩
      · rw [nI_clamp (by omega), em]; decide
      · rw [show (70 : Int32) * (nI k + 1) = nI (70 * (k + 1)) from by rw [nI_1, li_70, pk_mul]]
        exact M_copies (t := 0) (by omega) (by omega) (by omega) fun d' g1 g2 g3 => M_noteMany (hMk.move okk g1 g3) okk ⟨rfl, g1, g2, hMk.move okk g1 g3⟩
      · rintro d d' ⟨a1, a2⟩ ⟨b1, b2, b3⟩
        exact RelH.rel ⟨okk, a2, b3, hO.keep2 (fun a ha => a1 a (by omega)) ⟨fun j _ => by rw [b1 0 (by omega)], fun j h1 h2 => b2 j (by omega), fun a ha => b1 a (by omega)⟩ h10⟩
  · exact two_ask hR (-1) (cn_X4_back (X_win_n (n := 1) (by omega) hz (y0 ⟨rfl, XK.rf⟩))) (cn_X5_back (M_win_n (n := 1) (by omega) hz (y0 ⟨rfl, MK.rf⟩)))
theorem M_count_4 {q : Int32 → DD → Prop} {d : DD} {H : HH} {p0 : Int32} (hM : MH 0 d H) (ok : OKH H) (h : ∀ l3, l3 = nI (nT H) → Ev SM MX5_count 4 [.ref 0, .int p0, .int (nI (sumN (lenO H) (nT H))), .int l3] [] d (rI q)) : Ev SM MX5_count 4 [.ref 0, .int p0, .int 0, .int 0] [] d (rI q) := by
  have o4 := ok.t4
  rw [li_0]
  refine for_up (W := fun k d' => Ev SM MX5_count 4 [.ref 0, .int p0, .int (nI (sumN (lenO H) k)), .int (nI k)] [] d' (rI q)) (I := fun k d' => d' = d) (nT H) ?_ ?_ 0 d (Nat.zero_le _) rfl
  · rintro d' rfl
    exact h _ rfl
  · rintro k d' hk rfl ih
    refine bk_X5_count_4 ⟨fun c => ?_, fun _ => M_lengthOf hM ok hk ?_⟩
    · rw [hM.nt] at c; exact absurd ((nI_leI (by omega) (by omega)).mp c) (by omega)
    · rw [nI_add, nI_1]
      exact ih d' rfl
theorem two_count {x m : DD} {H : HH} {p0 : Int32} (hR : RelH H x m) : Two MX4_count MX5_count [.ref 0, .int p0] x m := by
  obtain ⟨ok, hX, hM, hO⟩ := id hR
  have o4 := ok.t4
  have mm : ∀ {r : Int32}, ((p0 = 0 → m 0 28 = r) ∧ (¬ p0 = 0 → ((p0 = 1 → Ev SM MX5_count 4 [.ref 0, .int p0, .int (nI (sumN (lenO H) (nT H))), .int (nI (nT H))] [] m (rI fun r' d => r' = r ∧ MK m d)) ∧ (¬ p0 = 1 → ((p0 = 2 → m 0 10 = r) ∧ (¬ p0 = 2 → ((p0 = 3 → (if m 14 0 = -4 then -4 else m 15 0) = r) ∧ (¬ p0 = 3 → ((p0 = 4 → nI (sumN (fun t => H 1 t) (nT H)) = r) ∧ (¬ p0 = 4 → ((p0 = 5 → nI (sumN (lenO H) (nT H)) = r) ∧ (¬ p0 = 5 → -1 = r)))))))))))) → Cn SM MX5_count [.ref 0, .int p0] m (rI fun r' d => r' = r ∧ MK m d) := by
    intro r h
    refine cn_X5_count (M_count_4 hM ok fun l3 e => ?_)
    subst e
    by_cases c1 : p0 = 1
    · exact (h.2 (by rw [c1]; decide)).1 c1
    · refine bk_X5_count_4 ⟨fun _ => ?_, fun c => absurd ?_ c⟩
      · refine ⟨fun c => ⟨h.1 c, MK.rf⟩, fun c0 => ⟨fun c => absurd c c1, fun _ => ?_⟩⟩
        have h := (h.2 c0).2 c1
        refine ⟨fun c => ⟨h.1 c, MK.rf⟩, fun c2 => ?_⟩
        have h := h.2 c2
        refine ⟨fun c => ?_, fun c3 => ?_⟩
        · have h := h.1 c
          exact ⟨fun z => ⟨by rw [if_neg z] at h; exact h, MK.rf⟩, fun z => ⟨by rw [if_pos z] at h; exact h, MK.rf⟩⟩
        · have h := h.2 c3
          refine ⟨fun c => M_noteMany hM ok ⟨h.1 c, MK.rf⟩, fun c4 => ?_⟩
          have h := h.2 c4
          exact ⟨fun c => ⟨h.1 c, MK.rf⟩, fun c => ⟨h.2 c, MK.rf⟩⟩
      · rw [hM.nt]; exact nI_le (Nat.le_refl _) (by omega)
  by_cases c0 : p0 = 0
  · obtain ⟨n, a1, a2, a3, a4⟩ := hO.2.1
    exact two_ask hR (nI n) (cn_X4_count (br_t c0 ⟨a2, XK.rf⟩)) (mm (br_t c0 a3))
  · by_cases c1 : p0 = 1
    · obtain ⟨b, hb, ex, em⟩ := keep_bit (hO.2.2.1 0 (by omega))
      obtain ⟨b', hb', ex', em'⟩ := keep_bit (hO.2.2.1 1 (by omega))
      refine two_ask hR (nI (b + b')) (cn_X4_count (br_f c0 (br_t c1 ?_))) (mm (br_f c0 (br_t c1 (bk_X5_count_4 ⟨fun _ => br_f c0 (br_t c1 ?_), fun c => absurd ?_ c⟩))))
      · rw [ex, ex']
        rcases (show b = 0 ∨ b = 1 by omega) with rfl | rfl <;> rcases (show b' = 0 ∨ b' = 1 by omega) with rfl | rfl
        · exact br_t rfl (br_t rfl ⟨rfl, XK.rf⟩)
        · exact br_t rfl (br_f (by decide) ⟨rfl, XK.rf⟩)
        · exact br_f (by decide) (br_t rfl ⟨rfl, XK.rf⟩)
        · exact br_f (by decide) (br_f (by decide) ⟨rfl, XK.rf⟩)
      · rw [em, em']
        rcases (show b = 0 ∨ b = 1 by omega) with rfl | rfl <;> rcases (show b' = 0 ∨ b' = 1 by omega) with rfl | rfl
        · exact br_t rfl (br_t rfl ⟨rfl, MK.rf⟩)
        · exact br_t rfl (br_f (by decide) ⟨rfl, MK.rf⟩)
        · exact br_f (by decide) (br_t rfl ⟨rfl, MK.rf⟩)
        · exact br_f (by decide) (br_f (by decide) ⟨rfl, MK.rf⟩)
      · rw [hM.nt]; exact nI_le (Nat.le_refl _) (by omega)
    · by_cases c2 : p0 = 2
      · obtain ⟨n, a1, a2, a3, a4⟩ := hO.1
        exact two_ask hR (nI n) (cn_X4_count (br_f c0 (br_f c1 (br_t c2 ⟨a2, XK.rf⟩)))) (mm (br_f c0 (br_f c1 (br_t c2 a3))))
      · by_cases c3 : p0 = 3
        · have i0 : vp_in 0 4 := vp_in_nI (n := 0) (N := 4) (by omega) (by omega)
          rcases hO.2.2.2.1 0 (by omega) with ⟨a1, a2⟩ | ⟨a1, l, n, a2, a3, a4, a5, a6, a7, a8⟩
          · refine two_ask hR (-4) (cn_X4_count (br_f c0 (br_f c1 (br_f c2 (br_t c3 ⟨i0, fun b8 h8 e => br_t ?_ ⟨rfl, XK.rf⟩⟩))))) (mm (br_f c0 (br_f c1 (br_f c2 (br_t c3 (if_pos a2))))))
            rw [e, li_0, shB_n (by omega)]; exact a1
          · refine two_ask hR (nI n) (cn_X4_count (br_f c0 (br_f c1 (br_f c2 (br_t c3 ⟨i0, fun b8 h8 e => br_f ?_ ⟨i0, fun b10 h10 e10 => ⟨?_, XK.rf⟩⟩⟩))))) (mm (br_f c0 (br_f c1 (br_f c2 (br_t c3 ?_)))))
            · rw [e, li_0, shB_n (by omega), a1]; decide
            · rw [e10, li_0, shB_n (by omega)]; exact a6
            · rw [if_neg (by rw [a5]; exact ne_m4 (by omega))]; exact a7
        · by_cases c4 : p0 = 4
          · exact two_ask hR _ (cn_X4_count (br_f c0 (br_f c1 (br_f c2 (br_f c3 (br_t c4 (X_allNotes isH1 hX ok ⟨rfl, XK.rf⟩))))))) (mm (br_f c0 (br_f c1 (br_f c2 (br_f c3 (br_t c4 rfl))))))
          · by_cases c5 : p0 = 5
            · exact two_ask hR _ (cn_X4_count (br_f c0 (br_f c1 (br_f c2 (br_f c3 (br_f c4 (br_t c5 (X_allLengths isH1 hX ok ⟨rfl, XK.rf⟩)))))))) (mm (br_f c0 (br_f c1 (br_f c2 (br_f c3 (br_f c4 (br_t c5 rfl)))))))
            · exact two_ask hR (-1) (cn_X4_count (br_f c0 (br_f c1 (br_f c2 (br_f c3 (br_f c4 (br_f c5 ⟨rfl, XK.rf⟩))))))) (mm (br_f c0 (br_f c1 (br_f c2 (br_f c3 (br_f c4 (br_f c5 rfl)))))))
