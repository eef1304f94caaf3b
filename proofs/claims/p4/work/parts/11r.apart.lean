/-! ===== apart ===== -/
def apaA (H : HH) (c : Nat) : Nat := awayS (spr H 3 4 (nT H) c) (playS (spr H 3 4 (nT H) c) 0)
def apaS (H : HH) : Nat → Nat × Nat := itr (fun c s => if apaA H c < s.2 then (c, apaA H c) else s) (0, 1000000)
theorem apaS_s (H : HH) (k : Nat) : apaS H (k + 1) = if apaA H k < (apaS H k).2 then (k, apaA H k) else apaS H k := rfl
theorem apaA_le {H : HH} (ok : OKH H) (c : Nat) : apaA H c ≤ 6 := awayS_le (ok.spr3 c)
theorem apaS_le {H : HH} (ok : OKH H) : ∀ k, (apaS H k).1 ≤ k ∧ (apaS H k).2 ≤ 1000000 := by
  intro k
  induction k with
  | zero => exact ⟨Nat.le_refl _, Nat.le_refl _⟩
  | succ k ih =>
    have h1 := apaA_le ok k
    rw [apaS_s]
    split
    · exact ⟨Nat.le_succ k, Nat.le_trans h1 (by omega)⟩
    · exact ⟨Nat.le_succ_of_le ih.1, ih.2⟩
def apaV (H : HH) (w : Nat) : Int32 := if w = 0 then nI (apaS H (4 ^ nT H)).2 else nI (fig (apaS H (4 ^ nT H)).1 4 (nT H) (w - 10))
theorem X_apart_83 {q : Int32 → DD → Prop} {x d : DD} {H : HH} {w f : Nat} (hX : XH 1 x H) (ok : OKH H) (hw : (w = 0 ∧ f = 0) ∨ (f = 1 ∧ ∃ p, p < nT H ∧ w = 10 + p)) (hk0 : XK x d) (h23 : XH 23 d H) (h : ∀ d', XK x d' → q (apaV H w) d') : Ev SX MX4_apart 83 [.ref 0, .int (nI w), .int (nI f), .int (nI (4 ^ nT H)), .int (nI 0), .int 1000000, .int (nI 0), uJ] [] d (rI q) := by
  have t4 := ok.t4
  have iH : isH 23 := by unfold isH; omega
  have hcs := codes_le (a := 4) (b := nT H) (Nat.le_refl _) t4 (by omega)
  refine for_up (W := fun k d' => Ev SX MX4_apart 83 [.ref 0, .int (nI w), .int (nI f), .int (nI (4 ^ nT H)), .int (nI (apaS H k).1), .int (x1 k (apaS H k).2), .int (nI k), uJ] [] d' (rI q)) (I := fun _ d' => XK x d' ∧ ∃ H2, XH 23 d' H2 ∧ like H H2 3 (nT H)) (4 ^ nT H) ?_ ?_ 0 d (Nat.zero_le _) ⟨hk0, H, h23, fun _ _ _ => rfl⟩
  · rintro d' ⟨g1, H2, g2, g3⟩
    have hX' := hX.xk g1
    have hle := apaS_le ok (4 ^ nT H)
    refine bk_X4_apart_83 (br_t (nI_le (Nat.le_refl _) (by omega)) ?_)
    rw [hX'.nt]
    rcases hw with ⟨a, b⟩ | ⟨a, p, hp, b⟩
    · subst a b
      have h := h d' g1
      unfold apaV at h
      refine rr_t rfl ?_
      unfold x1; rw [if_neg (by omega)]; exact h
    · subst a b
      refine rr_f (by decide) (X_spread (c := 27) (base := 4) rfl (by omega) t4 (by omega) (by omega) (by omega) fun d3 e1 e2 e3 => ⟨?_, ?_⟩)
      · rw [li_10, pk_sub (by omega)]; exact vp_in_nI (by omega) (by omega)
      · have h := h d3 (fun a ha => by rw [e1 a (by omega)]; exact g1 a ha)
        unfold apaV at h
        rw [if_neg (by omega)] at h
        rw [li_10, pk_sub (by omega), nI_clamp (by omega), e2 _ (by omega)]; exact h
  · rintro k d' hk ⟨g1, H2, g2, g3⟩ ih
    have hX' := hX.xk g1
    have hle := apaS_le ok k
    have hA := apaA_le ok k
    have okS := ok.spr3 k
    refine bk_X4_apart_83 (br_f (fun c => absurd ((nI_leI (by omega) (by omega)).mp c) (by omega)) ?_)
    rw [hX'.nt]
    refine X_spread (c := 27) (base := 4) rfl (by omega) t4 (by omega) (by omega) (by omega) fun d3 e1 e2 e3 => ?_
    have s23 : XH 23 d3 (spr H 3 4 (nT H) k) := g2.spr3 g3 e1 e2
    have k3 : XK x d3 := fun a ha => by rw [e1 a (by omega)]; exact g1 a ha
    refine X_run (sil := 0) iH s23 okS (by omega) fun d4 f4 e4 => ?_
    have s23' : XH 23 d4 (spr H 3 4 (nT H) k) := s23.kept (fun a _ _ => f4 a (by omega))
    refine X_away iH s23' okS (play_inv okS) e4 ?_
    have := ih d4 ⟨k3.tr f4.k, _, s23', spr_like⟩
    rw [apaS_s] at this
    have ex : ∀ v, x1 (k + 1) v = nI v := fun v => if_neg (by omega)
    rw [ex] at this
    rw [nI_1]
    have c1 := x1_lt (k := k) (v := (apaS H k).2) hA hle.2 (fun z => by subst z; rfl)
    have c2 : x1 k (apaS H k).2 ≤ nI (apaA H k) ↔ ¬ apaA H k < (apaS H k).2 := by
      rw [← c1, i_lt, i_le]; omega
    by_cases z1 : apaA H k < (apaS H k).2
    · rw [if_pos z1] at this
      exact br_f (fun c => c2.mp c z1) this
    · have kn : k ≠ 0 := fun z => by subst z; exact z1 (show apaA H 0 < 1000000 by omega)
      rw [if_neg z1] at this
      have ex' : x1 k (apaS H k).2 = nI (apaS H k).2 := if_neg kn
      refine br_t (c2.mpr z1) ?_
      rw [ex']; exact this
theorem M_apart_51 {q : Int32 → DD → Prop} {m d : DD} {H : HH} {w : Nat} (ok : OKH H) (hs : m 0 26 = nI 0) (hw : w = 0 ∨ ∃ p, p < nT H ∧ w = 10 + p) (hk0 : MB m d) (hM0 : MH 0 d H) (h : ∀ d', MK m d' → q (apaV H w) d') : Ev SM MX5_apart 51 [.ref 0, .int (nI w), .int 1000000, .int (nI 0), .int (nI 0), uJ] [] d (rI q) := by
  have t4 := ok.t4
  have hcs := codes_le (a := 4) (b := nT H) (Nat.le_refl _) t4 (by omega)
  refine for_up (W := fun k d' => Ev SM MX5_apart 51 [.ref 0, .int (nI w), .int (nI (apaS H k).2), .int (nI (apaS H k).1), .int (nI k), uJ] [] d' (rI q)) (I := fun _ d' => MB m d' ∧ ∃ H2, MH 0 d' H2 ∧ like H H2 3 (nT H)) (4 ^ nT H) ?_ ?_ 0 d (Nat.zero_le _) ⟨hk0, H, hM0, fun _ _ _ => rfl⟩
  · rintro d' ⟨g1, H2, g2, g3⟩
    have hle := apaS_le ok (4 ^ nT H)
    have e0 : d' 0 1 = nI (nT H) := g2.nt.trans (congrArg nI (g3 10 0 (by omega)))
    refine bk_X5_apart_51 ?_
    rw [e0]
    refine M_powerOf (b := 4) (by omega) (br_t (nI_le (Nat.le_refl _) (by omega)) ?_)
    rw [e0]
    refine M_lays (o := 12) (base := 4) (by omega) (by omega) (by omega) (by omega) (by omega) fun d3 f1 f2 f3 => ?_
    have b3 : MB m d3 := g1.row f1 (fun j hj => f3 j (by omega))
    rcases hw with a | ⟨p, hp, b⟩
    · subst a
      exact rr_t rfl (M_copies (f := 280) (t := 0) (by omega) (by omega) (by omega) fun d4 u1 u2 u3 => h d4 (b3.fin u1 u2 u3))
    · subst b
      refine rr_f (fun z => absurd (nI_inj (b := 0) (by omega) (by omega) z) (by omega)) ?_
      rw [show (12 : Int32) + nI (10 + p) - 10 = nI (12 + p) from by rw [li_12, li_10, nI_add, pk_sub (by omega), show 12 + (10 + p) - 10 = 12 + p by omega]]
      refine ⟨vp_in_nI (by omega) (by omega), nm_e (M_copies (f := 280) (t := 0) (by omega) (by omega) (by omega) fun d4 u1 u2 u3 => ?_)⟩
      have h := h d4 (b3.fin u1 u2 u3)
      unfold apaV at h
      rw [if_neg (by omega), show 10 + p - 10 = p by omega] at h
      rw [nI_clamp (by omega), f2 p hp]; exact h
  · rintro k d' hk ⟨g1, H2, g2, g3⟩ ih
    have hle := apaS_le ok k
    have hA := apaA_le ok k
    have okS := ok.spr3 k
    have e0 : d' 0 1 = nI (nT H) := g2.nt.trans (congrArg nI (g3 10 0 (by omega)))
    refine bk_X5_apart_51 ?_
    rw [e0]
    refine M_powerOf (b := 4) (by omega) (br_f (fun c => absurd ((nI_leI (by omega) (by omega)).mp c) (by omega)) ?_)
    rw [e0]
    refine M_lays (o := 12) (base := 4) (by omega) (by omega) (by omega) (by omega) (by omega) fun d3 f1 f2 f3 => ?_
    have b3 : MB m d3 := g1.row f1 (fun j hj => f3 j (by omega))
    have s3 : MH 0 d3 (spr H 3 4 (nT H) k) := g2.spr3 ok g3 f1 f3 f2
    refine M_awayMany (sil := 0) s3 okS (by rw [b3.sil]; exact hs) (by omega) fun d4 v1 v2 => ?_
    have b4 := b3.mf v1
    have s4 := s3.mf okS v1
    have := ih d4 ⟨b4, _, s4, spr_like⟩
    rw [apaS_s] at this
    rw [nI_1]
    have c2 : nI (apaS H k).2 ≤ nI (apaA H k) ↔ (apaS H k).2 ≤ apaA H k := nI_leI (by omega) (by omega)
    by_cases z1 : apaA H k < (apaS H k).2
    · rw [if_pos z1] at this
      have c3 : ¬ nI (apaS H k).2 ≤ nI (apaA H k) := fun c => absurd (c2.mp c) (by omega)
      exact br_f c3 (br_f c3 this)
    · rw [if_neg z1] at this
      have c3 : nI (apaS H k).2 ≤ nI (apaA H k) := c2.mpr (by omega)
      exact br_t c3 (br_t c3 this)
theorem two_apart {x m : DD} {H : HH} {p0 : Int32} (hR : RelH H x m) : Two MX4_apart MX5_apart [.ref 0, .int p0] x m := by
  obtain ⟨ok, hX, hM, hO⟩ := id hR
  have t4 := ok.t4
  have iH : isH 23 := by unfold isH; omega
  have xs : ∀ {w f : Nat} {q : Int32 → DD → Prop} {p0 : Int32}, ((w = 0 ∧ f = 0) ∨ (f = 1 ∧ ∃ p, p < nT H ∧ w = 10 + p)) → p0 = nI w → (0 < nT H → ∀ d', XK x d' → q (apaV H w) d') → (nT H = 0 → q (-2) x) → Ev SX MX4_apart 36 [.ref 0, .int p0, .int (nI f), uJ, uJ, uJ, uJ, uJ] [] x (rI q) := by
    intro w f q p0 hw e h1 h2
    subst e
    refine bk_X4_apart_36 ?_
    rw [hX.nt]
    rcases Nat.eq_zero_or_pos (nT H) with z | z
    · exact br_f (by rw [z]; decide) (h2 z)
    · refine br_t (by rw [li_1]; exact (nI_leI (by omega) (by omega)).mpr z) (X_becomeH iH isH1 (by omega) hX ok fun d2 g1 g2 => ?_)
      rw [(hX.kept (fun a _ _ => g1 a (by omega))).nt]
      exact X_power (b := 4) (by omega) (X_apart_83 hX ok hw (fun a ha => g1 a (by omega)) g2 (h1 z))
  have ms : ∀ {w : Nat} {q : Int32 → DD → Prop} {p0 : Int32}, (w = 0 ∨ ∃ p, p < nT H ∧ w = 10 + p) → p0 = nI w → (0 < nT H → ∀ d', MK m d' → q (apaV H w) d') → (nT H = 0 → q (-2) m) → Ev SM MX5_apart 25 [.ref 0, .int p0, uJ, uJ, uJ, uJ] [] m (rI q) := by
    intro w q p0 hw e h1 h2
    subst e
    refine bk_X5_apart_25 ?_
    rw [hM.nt]
    rcases Nat.eq_zero_or_pos (nT H) with z | z
    · exact rr_t (by rw [z]; rfl) (h2 z)
    · exact rr_f (fun y => absurd (nI_inj (b := 0) (by omega) (by omega) y) (by omega)) (M_copies (f := 0) (t := 280) (by omega) (by omega) (by omega) fun d2 g1 g2 g3 => M_apart_51 ok hO.sil hw (MB.beg MK.rf g1 g2 g3) (hM.kept (fun j _ _ => by rw [g1 0 (by omega)]) (fun j _ _ => g2 j (by omega)) ok) (h1 z))
  by_cases e0 : p0 = 0
  · have hx : ∀ {q : Int32 → DD → Prop}, Ev SX MX4_apart 36 [.ref 0, .int p0, .int (nI 0), uJ, uJ, uJ, uJ, uJ] [] x (rI q) → Cn SX MX4_apart [.ref 0, .int p0] x (rI q) := fun t => cn_X4_apart (br_t (by rw [e0]; decide) (br_t e0 t))
    have hm : ∀ {q : Int32 → DD → Prop}, Ev SM MX5_apart 25 [.ref 0, .int p0, uJ, uJ, uJ, uJ] [] m (rI q) → Cn SM MX5_apart [.ref 0, .int p0] m (rI q) := fun t => cn_X5_apart (br_t e0 t)
    rcases Nat.eq_zero_or_pos (nT H) with z | z
    · exact two_ask hR (-2) (hx (xs (w := 0) (Or.inl ⟨rfl, rfl⟩) e0 (fun y => absurd y (by omega)) (fun _ => ⟨rfl, XK.rf⟩))) (hm (ms (w := 0) (Or.inl rfl) e0 (fun y => absurd y (by omega)) (fun _ => ⟨rfl, MK.rf⟩)))
    · exact two_ask hR (apaV H 0) (hx (xs (w := 0) (Or.inl ⟨rfl, rfl⟩) e0 (fun _ d' g => ⟨rfl, g⟩) (fun y => absurd y (by omega)))) (hm (ms (w := 0) (Or.inl rfl) e0 (fun _ d' g => ⟨rfl, g⟩) (fun y => absurd y (by omega))))
  · rcases ten_or (v := p0) (k := nT H) (by omega) with ⟨p, hp, e⟩ | ⟨hz2, hz3⟩
    · have p10 : ¬ p0 < 10 := by rw [e, li_10]; exact fun c => absurd ((nI_ltI (by omega) (by omega)).mp c) (by omega)
      have e10 : p0 - 10 = nI p := by rw [e, li_10, pk_sub (by omega), show 10 + p - 10 = p by omega]
      have hx : ∀ {q : Int32 → DD → Prop}, Ev SX MX4_apart 36 [.ref 0, .int p0, .int (nI 1), uJ, uJ, uJ, uJ, uJ] [] x (rI q) → Cn SX MX4_apart [.ref 0, .int p0] x (rI q) := fun t => cn_X4_apart (br_f p10 (by rw [e10]; exact X_hasTune_y isH1 hX ok hp (y1' (br_f e0 t))))
      have hm : ∀ {q : Int32 → DD → Prop}, Ev SM MX5_apart 25 [.ref 0, .int p0, uJ, uJ, uJ, uJ] [] m (rI q) → Cn SM MX5_apart [.ref 0, .int p0] m (rI q) := fun t => cn_X5_apart (br_f e0 (by rw [hM.nt]; rw [e] at t ⊢; exact M_i10_y (by omega) (by omega) (by omega) (y1 t)))
      exact two_ask hR (apaV H (10 + p)) (hx (xs (Or.inr ⟨rfl, p, hp, rfl⟩) e (fun _ d' g => ⟨rfl, g⟩) (fun y => absurd y (by omega)))) (hm (ms (Or.inr ⟨p, hp, rfl⟩) e (fun _ d' g => ⟨rfl, g⟩) (fun y => absurd y (by omega))))
    · refine two_ask hR (-1) (cn_X4_apart ?_) (cn_X5_apart (br_f e0 ?_))
      · rcases hz3 with y | ⟨y, y2⟩
        · exact br_t y (br_f e0 ⟨rfl, XK.rf⟩)
        · exact br_f y (X_hasTune_n isH1 hX ok y2 (y0' (br_f e0 ⟨rfl, XK.rf⟩)))
      · rw [hM.nt]; exact M_i10_n (by omega) hz2 (y0 ⟨rfl, MK.rf⟩)
