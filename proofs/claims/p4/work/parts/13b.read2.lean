theorem read_fin {H H' : HH} {x m d' d2 e : DD} {t : Nat} (hR : RelH H x m) (g : XRd x d') (ok : OKH H') (h10 : ∀ j, H' 10 j = H 10 j) (g1 : ∀ a, a < 1 ∨ 1 + 10 < a → d2 a = d' a) (hX : XH 1 d2 H') (g2 : MRd m e) (hM : MH 0 e H') : Rel (up d2 0 12 (nI t)) (up e 0 34 (nI t)) := by
  obtain ⟨b1, b2, b3, b4, b5, b6, b7, b8⟩ := (hR.2.2.2).keep2 (H' := H') (x' := d2) (m' := e) (fun a ha => by rw [g1 a (by omega), g a (by omega)]) ⟨fun j _ => by rw [g2.1 0 (by omega)], g2.2.1, fun a ha => g2.1 a (by omega)⟩ h10
  have hx : ∀ a, a ≠ 0 → up d2 0 12 (nI t) a = d2 a := fun a h => up_ne a h
  have hm : ∀ a, a ≠ 0 → up e 0 34 (nI t) a = e a := fun a h => up_ne a h
  refine RelH.rel (H := H') ⟨ok, hX.kept (fun a _ _ => hx a (by omega)), hM.kept (fun j _ _ => up_n (by omega)) (fun j _ _ => by rw [hm 1 (by omega)]) ok, b1.k (by rw [hx 36 (by omega)]) (hx 37 (by omega)) (up_n (by omega)) (hm 3 (by omega)), b2.k (up_n (by omega)) (hx 49 (by omega)) (hx 50 (by omega)) (hx 51 (by omega)) (up_n (by omega)) (hm 12 (by omega)), fun i hi => (b3 i hi).k (by rw [hx 35 (by omega)]) (fun a _ _ => hx a (by omega)) (by rw [hm 13 (by omega)]) (fun j _ _ => up_n (by omega)) (fun j _ _ => by rw [hm 1 (by omega)]), fun i hi => (b4 i hi).k (hx _ (by omega)) (hx _ (by omega)) (by rw [hm 14 (by omega)]) (by rw [hm 15 (by omega)]) (fun j _ => by rw [hm 16 (by omega)]), b5.k (hm 4 (by omega)) (hm 5 (by omega)), ?_, ?_, ?_⟩
  · rw [up_n (by omega)]; exact b6
  · rw [hx 36 (by omega), up_n (by omega)]; exact b7
  · rw [up_s, up_s]
/-- the end of a reading that isn't refused -/
def PXr (x : DD) (t : Nat) (H' : HH) (d : DD) : Prop := ∃ d' d2, XRd x d' ∧ (∀ a, a < 1 ∨ 1 + 10 < a → d2 a = d' a) ∧ XH 1 d2 H' ∧ d = up d2 0 12 (nI t)
def PMr (m : DD) (t : Nat) (H' : HH) (d : DD) : Prop := ∃ e, MRd m e ∧ MH 0 e H' ∧ d = up e 0 34 (nI t)
theorem two_rd {M1 M2 : MM} {As : List Value} {x m : DD} {H H' : HH} {r : Int32} {t : Nat} (hR : RelH H x m) (ok : OKH H') (h10 : ∀ j, H' 10 j = H 10 j) (h1 : Cn SX M1 As x (rI fun r' d => r' = r ∧ PXr x t H' d)) (h2 : Cn SM M2 As m (rI fun r' d => r' = r ∧ PMr m t H' d)) : Two M1 M2 As x m := ⟨r, _, _, h1, h2, fun d d' a b => by
  obtain ⟨e1, e2, e3, e4, e5, rfl⟩ := a
  obtain ⟨e6, e7, e8, rfl⟩ := b
  exact read_fin hR e3 ok h10 e4 e5 e7 e8⟩
theorem X_read_168 {x d : DD} {H' : HH} {k t : Nat} {l1 l2 l3 l4 l8 a : Int32} (hk : k < 4) (g : XRd x d) (hX : XH 23 d H') (ok : OKH H') : Ev SX MX4_read 168 [.ref 0, .int l1, .int l2, .int l3, .int l4, .ref (74 + 2 * k), .int (nI t), .int a, .int l8, uJ, uJ] [] d (rI fun r' d => r' = a ∧ PXr x t H' d) :=
  bk_X4_read_168 (by unfold isSh; omega) (X_becomeH isH1 (Or.inr (Or.inr (Or.inl rfl))) (by omega) hX ok fun d2 g1 g2 => nm_e ⟨rfl, d, d2, g, g1, g2, rfl⟩)
theorem X_read_54 {q : Int32 → DD → Prop} {x : DD} {H : HH} {k : Nat} {l1 l2 l3 l4 k0 : Int32} (hk : k < 4) (hX : XH 1 x H) (ok : OKH H) (h : ∀ d, XRd x d → XH 23 d H → Ev SX MX4_read 73 [.ref 0, .int l1, .int l2, .int l3, .int l4, .ref (74 + 2 * k), .int k0, .int 0, .int 0, uJ, uJ] [] d (rI q)) : Ev SX MX4_read 54 [.ref 0, .int l1, .int l2, .int l3, .int l4, .ref (74 + 2 * k), uJ, uJ, uJ, uJ, uJ] [.int k0] x (rI q) :=
  bk_X4_read_54 (by unfold isSh; omega) (X_becomeH (Or.inr (Or.inr (Or.inl rfl))) isH1 (by omega) hX ok fun d2 g1 g2 => h d2 (fun a ha => g1 a (by omega)) g2)
/-- nothing is read: n is 0, or the sheet has a fault -/
theorem X_read_st {x : DD} {H : HH} {k t N : Nat} {l1 l2 l3 : Int32} (hk : k < 4) (hX : XH 1 x H) (ok : OKH H) (hN : N ≤ 20) (ht : t ≤ 3) (hn : N = 0 ∨ t ≠ 0) : Ev SX MX4_read 54 [.ref 0, .int l1, .int l2, .int l3, .int (nI N), .ref (74 + 2 * k), uJ, uJ, uJ, uJ, uJ] [.int (nI t)] x (rI fun r' d => r' = nI 0 ∧ PXr x t H d) := by
  refine X_read_54 hk hX ok fun d g hX2 => ?_
  have e := fun l8 => X_read_168 (l1 := l1) (l2 := l2) (l3 := l3) (l4 := nI N) (l8 := l8) (a := 0) (t := t) hk g hX2 ok
  refine bk_X4_read_73 (by unfold isSh; omega) ⟨fun _ => e _, fun c => ?_⟩
  rcases Nat.eq_zero_or_pos N with z | z
  · subst z; exact absurd (by decide) c
  · exact rr_f (lit_ne (b := 0) (by omega) (by omega) (by omega)) (e _)
theorem MRd.beg {m d : DD} (g1 : ∀ a, a ≠ 1 → d a = m a) (g2 : ∀ j, j < 210 ∨ 210 + 70 ≤ j → d 1 j = m 1 j) (g3 : ∀ i, i < 70 → d 1 (210 + i) = m 1 (0 + i)) : MRd m d := ⟨g1, fun j _ h => g2 j (by omega), fun i hi => by rw [g3 i hi, Nat.zero_add]⟩
theorem M_read_c {q : Int32 → DD → Prop} {m : DD} {H : HH} {k la N : Nat} {p2 : Int32} (hM : MH 0 m H) (ok : OKH H) (hk : k < 4) (hla : la < 3) (hN : N ≤ 20) (h : ∀ d, MRd m d → MH 0 d H → Ev SM MX5_read 56 [.ref 0, .int (nI k), .int (nI la), .int p2, .int (nI N), .int 0, .int 0, .int 0, uJ] [] d (rI q)) : Cn SM MX5_read [.ref 0, .int (nI k), .int (nI la), .int p2, .int (nI N)] m (rI q) :=
  cn_X5_read (M_win_y (n := 3) (by omega) (by omega) (y1' (M_win_y (n := 2) (by omega) (by omega) (y1' (M_win_y (n := 20) (by omega) hN (y1 (M_copies (f := 0) (t := 210) (by omega) (by omega) (by omega) fun d g1 g2 g3 => h d (MRd.beg g1 g2 g3) (hM.kept (fun j _ _ => by rw [g1 0 (by omega)]) (fun j _ _ => g2 j (by omega)) ok))))))))
theorem X_read_c {q : Int32 → DD → Prop} {x : DD} {k la N : Nat} {p2 : Int32} (hk : k < 4) (hla : la < 3) (hN : N ≤ 20) (h : ((¬ nI N = 0 → Cn SX MX2_faultAs [.ref (74 + 2 * k), .int (nI la)] x (rI fun r13 d12 => Ev SX MX4_read 54 [.ref 0, .int (nI k), .int (nI la), .int p2, .int (nI N), .ref (74 + 2 * k), uJ, uJ, uJ, uJ, uJ] [.int r13] d12 (rI q))) ∧ (nI N = 0 → Ev SX MX4_read 54 [.ref 0, .int (nI k), .int (nI la), .int p2, .int (nI N), .ref (74 + 2 * k), uJ, uJ, uJ, uJ, uJ] [.int 0] x (rI q)))) : Cn SX MX4_read [.ref 0, .int (nI k), .int (nI la), .int p2, .int (nI N)] x (rI q) :=
  cn_X4_read (X_win_y (n := 3) (by omega) (by omega) (y1' (X_win_y (n := 2) (by omega) (by omega) (y1' (X_win_y (n := 20) (by omega) hN (y1 ⟨vp_in_nI (by omega) (by omega), fun b hb e => by rw [shB_n hk] at e; subst e; exact h⟩))))))
theorem two_read {x m : DD} {H : HH} {p0 p1 p2 p3 : Int32} (hR : RelH H x m) : Two MX4_read MX5_read [.ref 0, .int p0, .int p1, .int p2, .int p3] x m := by
  obtain ⟨ok, hX, hM, hO⟩ := id hR
  rcases ge_of (n := 4) (v := p0) (by omega) with ⟨k, hk, rfl⟩ | hz
  · have i4 : vp_in (nI k) 4 := vp_in_nI (by omega) (by omega)
    rcases ge_of (n := 3) (v := p1) (by omega) with ⟨la, hla, rfl⟩ | hz2
    · rcases ge_of (n := 21) (v := p3) (by omega) with ⟨N, hN, rfl⟩ | hz3
      · rcases Nat.eq_zero_or_pos N with z | z
        · subst z
          exact two_rd (t := 0) hR ok (fun _ => rfl) (X_read_c hk hla (by omega) (rr_t rfl (X_read_st (t := 0) (N := 0) hk hX ok (by omega) (by omega) (Or.inl rfl)))) (M_read_c hM ok hk hla (by omega) fun d g hM2 => bk_X5_read_56 (br_t (by decide) (nm_e ⟨rfl, d, g, hM2, rfl⟩)))
        · have nz : ¬ nI N = 0 := lit_ne (b := 0) (by omega) (by omega) (by omega)
          have nz2 : ¬ (2 : Int32) * nI N ≤ 0 := by rw [li_2, pk_mul]; exact fun c => absurd ((nI_leI (by omega) (show 0 < 2 ^ 31 by omega)).mp c) (by omega)
          have Hs : isSh (74 + 2 * k) := by unfold isSh; omega
          have mf : ∀ t d, 1 ≤ t → t ≤ 3 → MRd m d → MH 0 d H → Ev SM MX5_read 126 [.ref 0, .int (nI k), .int (nI la), .int p2, .int (nI N), .int 0, .int 0, .int 0, uJ] [.int (nI t)] d (rI fun r' d => r' = nI 0 ∧ PMr m t H d) := by
            intro t d h1 h2 g hM2
            have tz : ¬ nI t = 0 := lit_ne (b := 0) (by omega) (by omega) (by omega)
            exact bk_X5_read_126 (rr_f tz (bk_X5_read_56 ⟨fun _ => nm_e ⟨rfl, d, g, hM2, rfl⟩, fun _ => rr_f tz (nm_e ⟨rfl, d, g, hM2, rfl⟩)⟩))
          rcases hO.2.2.2.1 k hk with ⟨a1, a2⟩ | ⟨a1, l, n, a2, a3, a4, a5, a6, a7, a8⟩
          · refine two_rd (t := 1) hR ok (fun _ => rfl) (X_read_c hk hla (by omega) (rr_f nz (cn_X2_faultAs Hs (rr_t a1 (X_read_st (t := 1) hk hX ok (by omega) (by omega) (Or.inr (by omega))))))) (M_read_c hM ok hk hla (by omega) fun d g hM2 => bk_X5_read_56 (br_f nz2 (rr_t rfl ⟨i4, rr_t ?_ (mf 1 d (by omega) (by omega) g hM2)⟩)))
            rw [nI_clamp (by omega), g.1 14 (by omega)]; exact a2
          · have xz : ¬ x (74 + 2 * k) 0 = 0 := by rw [a1]; decide
            by_cases el : l = la
            · subst el
              rcases hr : rdR (fun i => x (75 + 2 * k) i) p2.toInt n N 0 H with ⟨ra, rt, rH⟩
              have xx : ∀ {q : Int32 → DD → Prop}, (∀ a H' d', rdR (fun i => x (75 + 2 * k) i) p2.toInt n N 0 H = (a, none, H') → XRd x d' → q a d') → (∀ a t H' d' l8, rdR (fun i => x (75 + 2 * k) i) p2.toInt n N 0 H = (a, some t, H') → XRd x d' → XH 23 d' H' → OKH H' → (∀ j, H' 10 j = H 10 j) → Ev SX MX4_read 168 [.ref 0, .int (nI k), .int (nI l), .int p2, .int (nI N), .ref (74 + 2 * k), .int (nI t), .int a, .int l8, uJ, uJ] [] d' (rI q)) → Cn SX MX4_read [.ref 0, .int (nI k), .int (nI l), .int p2, .int (nI N)] x (rI q) := fun h0 h1 => X_read_c hk hla (by omega) (rr_f nz (cn_X2_faultAs Hs (rr_f xz (rr_t a4 (X_read_54 hk hX ok fun d g hX2 => X_read_73 hk a6 (by omega) (fun i _ => rfl) (by omega) h0 h1 N 0 H d (by omega) rfl g hX2 ok (fun _ => rfl))))))
              have mm : ∀ {q : Int32 → DD → Prop}, (∀ a H' d', rdR (fun i => x (75 + 2 * k) i) p2.toInt n N 0 H = (a, none, H') → MK m d' → q a d') → (∀ a t H' d', rdR (fun i => x (75 + 2 * k) i) p2.toInt n N 0 H = (a, some t, H') → MRd m d' → MH 0 d' H' → OKH H' → (∀ j, H' 10 j = H 10 j) → q a (up d' 0 34 (nI t))) → Cn SM MX5_read [.ref 0, .int (nI k), .int (nI l), .int p2, .int (nI N)] m (rI q) := fun h0 h1 => M_read_c hM ok hk hla (by omega) fun d g hM2 => M_read_56 hk (by omega) a5 a7 (by omega) (fun i hi => (a8 i hi).symm) (by omega) h0 h1 N 0 H d (by omega) rfl g hM2 ok (fun _ => rfl)
              rw [hr] at xx mm
              cases rt with
              | none =>
                refine two_ask hR ra (xx (fun a H' d' e g => ?_) (fun a t H' d' l8 e => ?_)) (mm (fun a H' d' e g => ?_) (fun a t H' d' e => ?_))
                · cases e; exact ⟨rfl, fun a ha => g a (by omega)⟩
                · cases e
                · cases e; exact ⟨rfl, g⟩
                · cases e
              | some t =>
                by_cases hok : OKH rH ∧ ∀ j, rH 10 j = H 10 j
                · refine two_rd (t := t) (r := ra) hR hok.1 hok.2 (xx (fun a H' d' e g => ?_) (fun a t H' d' l8 e g h1 h2 h3 => ?_)) (mm (fun a H' d' e g => ?_) (fun a t H' d' e g h1 h2 h3 => ?_))
                  · cases e
                  · cases e; exact X_read_168 hk g h1 h2
                  · cases e
                  · cases e; exact ⟨rfl, d', g, h1, rfl⟩
                · refine ⟨0, fun _ => False, fun _ => False, xx (fun a H' d' e g => ?_) (fun a t H' d' l8 e g h1 h2 h3 => ?_), mm (fun a H' d' e g => ?_) (fun a t H' d' e g h1 h2 h3 => ?_), fun d d' a => absurd a id⟩
                  · cases e
                  · cases e; exact absurd ⟨h2, h3⟩ hok
                  · cases e
                  · cases e; exact absurd ⟨h2, h3⟩ hok
            · refine two_rd (t := 3) hR ok (fun _ => rfl) (X_read_c hk hla (by omega) (rr_f nz (cn_X2_faultAs Hs (rr_f xz (rr_f ?_ (X_read_st (t := 3) hk hX ok (by omega) (by omega) (Or.inr (by omega)))))))) (M_read_c hM ok hk hla (by omega) fun d g hM2 => bk_X5_read_56 (br_f nz2 (rr_t rfl ⟨i4, rr_f ?_ ⟨i4, br_f ?_ (mf 3 d (by omega) (by omega) g hM2)⟩⟩)))
              · rw [a4]; exact lit_ne (by omega) (by omega) el
              · rw [nI_clamp (by omega), g.1 14 (by omega), a5]; exact ne_m4 (by omega)
              · rw [nI_clamp (by omega), g.1 14 (by omega), a5]; exact lit_ne (by omega) (by omega) el
      · exact two_ask hR (-1) (cn_X4_read (X_win_y (n := 3) (by omega) (by omega) (y1' (X_win_y (n := 2) (by omega) (by omega) (y1' (X_win_n (n := 20) (by omega) hz3 (y0 ⟨rfl, XK.rf⟩))))))) (cn_X5_read (M_win_y (n := 3) (by omega) (by omega) (y1' (M_win_y (n := 2) (by omega) (by omega) (y1' (M_win_n (n := 20) (by omega) hz3 (y0 ⟨rfl, MK.rf⟩)))))))
    · exact two_ask hR (-1) (cn_X4_read (X_win_y (n := 3) (by omega) (by omega) (y1' (X_win_n (n := 2) (by omega) hz2 (y0' ⟨rfl, XK.rf⟩))))) (cn_X5_read (M_win_y (n := 3) (by omega) (by omega) (y1' (M_win_n (n := 2) (by omega) hz2 (y0' ⟨rfl, MK.rf⟩)))))
  · exact two_ask hR (-1) (cn_X4_read (X_win_n (n := 3) (by omega) hz (y0' ⟨rfl, XK.rf⟩))) (cn_X5_read (M_win_n (n := 3) (by omega) hz (y0' ⟨rfl, MK.rf⟩)))
