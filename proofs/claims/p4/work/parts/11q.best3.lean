theorem M_best_61 {q : Int32 → DD → Prop} {m d : DD} {H : HH} {w : Nat} (ok : OKH H) (hs : m 0 26 = nI 0) (hT : 0 < nT H) (hw : w < 2 ∨ ∃ p, p < nP H ∧ w = 10 + p) (hk0 : MB m d) (hM0 : MH 0 d H) (h : ∀ d', MK m d' → q (besV H w) d') : Ev SM MX5_best 61 [.ref 0, .int (nI w), .int 1000000, .int 1000000, .int (nI 0), .int (nI 0), uJ, uJ] [] d (rI q) := by
  have o4 := ok.p4
  have t4 := ok.t4
  have hcs := codes_le (b := nP H) t4 o4 hT
  have hW : w < 14 := by rcases hw with a | ⟨p, a, b⟩ <;> omega
  refine for_up (W := fun k d' => Ev SM MX5_best 61 [.ref 0, .int (nI w), .int (nI (besS H k).2.1), .int (nI (besS H k).2.2), .int (nI (besS H k).1), .int (nI k), uJ, uJ] [] d' (rI q)) (I := fun _ d' => MB m d' ∧ ∃ H2, MH 0 d' H2 ∧ like H H2 8 (nP H)) (nT H ^ nP H) ?_ ?_ 0 d (Nat.zero_le _) ⟨hk0, H, hM0, fun _ _ _ => rfl⟩
  · rintro d' ⟨g1, H2, g2, g3⟩
    have hle := besS_le ok hT (nT H ^ nP H)
    have e0 : d' 0 1 = nI (nT H) := g2.nt.trans (congrArg nI (g3 10 0 (by omega)))
    have e1 : d' 0 2 = nI (nP H) := g2.np.trans (congrArg nI (g3 10 1 (by omega)))
    refine bk_X5_best_61 ?_
    rw [e0, e1]
    refine M_powerOf (by omega) (br_t (nI_le (Nat.le_refl _) (by omega)) ?_)
    rw [e0, e1]
    refine M_lays (o := 60) (by omega) (by omega) hT (by omega) (by omega) fun d3 f1 f2 f3 => ?_
    have b3 : MB m d3 := g1.row f1 (fun j hj => f3 j (by omega))
    rcases hw with a | ⟨p, hp, b⟩
    · rcases (show w = 0 ∨ w = 1 by omega) with rfl | rfl
      · exact rr_t rfl (M_copies (f := 280) (t := 0) (by omega) (by omega) (by omega) fun d4 u1 u2 u3 => h d4 (b3.fin u1 u2 u3))
      · exact rr_f (by decide) (rr_t rfl (M_copies (f := 280) (t := 0) (by omega) (by omega) (by omega) fun d4 u1 u2 u3 => h d4 (b3.fin u1 u2 u3)))
    · subst b
      refine rr_f (fun z => absurd (nI_inj (b := 0) (by omega) (by omega) z) (by omega)) (rr_f (fun z => absurd (nI_inj (b := 1) (by omega) (by omega) z) (by omega)) ?_)
      rw [show (60 : Int32) + nI (10 + p) - 10 = nI (60 + p) from by rw [li_60, li_10, nI_add, pk_sub (by omega), show 60 + (10 + p) - 10 = 60 + p by omega]]
      refine ⟨vp_in_nI (by omega) (by omega), nm_e (M_copies (f := 280) (t := 0) (by omega) (by omega) (by omega) fun d4 u1 u2 u3 => ?_)⟩
      have h := h d4 (b3.fin u1 u2 u3)
      unfold besV at h
      rw [if_neg (by omega), if_neg (by omega), show 10 + p - 10 = p by omega] at h
      rw [nI_clamp (by omega), f2 p hp]; exact h
  · rintro k d' hk ⟨g1, H2, g2, g3⟩ ih
    have hle := besS_le ok hT k
    have hA := besA_le ok hT k
    have hC := besC_le ok hT k
    have okS := ok.spr8 hT k
    have e0 : d' 0 1 = nI (nT H) := g2.nt.trans (congrArg nI (g3 10 0 (by omega)))
    have e1 : d' 0 2 = nI (nP H) := g2.np.trans (congrArg nI (g3 10 1 (by omega)))
    refine bk_X5_best_61 ?_
    rw [e0, e1]
    refine M_powerOf (by omega) (br_f (fun c => absurd ((nI_leI (by omega) (by omega)).mp c) (by omega)) ?_)
    rw [e0, e1]
    refine M_lays (o := 60) (by omega) (by omega) hT (by omega) (by omega) fun d3 f1 f2 f3 => ?_
    have b3 : MB m d3 := g1.row f1 (fun j hj => f3 j (by omega))
    have s3 : MH 0 d3 (spr H 8 (nT H) (nP H) k) := g2.spr8 ok g3 f1 f3 f2
    refine M_awayMany (sil := 0) s3 okS (by rw [b3.sil]; exact hs) (by omega) fun d4 v1 v2 => ?_
    have b4 := b3.mf v1
    have s4 := s3.mf okS v1
    have := ih d4 ⟨b4, _, s4, spr_like⟩
    rw [besS_s] at this
    have fin1 : Ev SM MX5_best 61 [.ref 0, .int (nI w), .int (nI (besA H k)), .int (nI (besC H k)), .int (nI k), .int (nI (k + 1)), uJ, uJ] [] d4 (rI q) → Ev SM MX5_best 138 [.ref 0, .int (nI w), .int (nI (besS H k).2.1), .int (nI (besS H k).2.2), .int (nI (besS H k).1), .int (nI k), .int (nI (besA H k)), .int 1] [.int (nI k)] d4 (rI q) := fun t => bk_X5_best_138 (br_f (by decide) (M_cost s4 okS v2 (br_f (by decide) (by rw [nI_1]; exact t))))
    have fin0 : Ev SM MX5_best 61 [.ref 0, .int (nI w), .int (nI (besS H k).2.1), .int (nI (besS H k).2.2), .int (nI (besS H k).1), .int (nI (k + 1)), uJ, uJ] [] d4 (rI q) → Ev SM MX5_best 138 [.ref 0, .int (nI w), .int (nI (besS H k).2.1), .int (nI (besS H k).2.2), .int (nI (besS H k).1), .int (nI k), .int (nI (besA H k)), .int 0] [.int (nI (besS H k).1)] d4 (rI q) := fun t => bk_X5_best_138 (br_t rfl (br_t rfl (by rw [nI_1]; exact t)))
    have c1 : nI (besA H k) < nI (besS H k).2.1 ↔ besA H k < (besS H k).2.1 := nI_ltI (by omega) (by omega)
    by_cases z1 : besA H k < (besS H k).2.1
    · rw [if_pos (Or.inl z1)] at this
      exact br_t (c1.mpr z1) (fin1 this)
    · refine br_f (mt c1.mp z1) ?_
      by_cases z2 : besA H k = (besS H k).2.1
      · refine rr_t (show nI (besA H k) = _ by rw [z2]) (M_cost s4 okS v2 ?_)
        by_cases z3 : besC H k < (besS H k).2.2
        · rw [if_pos (Or.inr ⟨z2, z3⟩)] at this
          exact br_f (fun c => absurd ((nI_leI (by omega) (show besC H k < 2 ^ 31 by omega)).mp c) (by omega)) (fin1 this)
        · rw [if_neg (fun y => by rcases y with y | y <;> omega)] at this
          exact br_t ((nI_leI (by omega) (show besC H k < 2 ^ 31 by omega)).mpr (by omega)) (fin0 this)
      · rw [if_neg (fun y => by rcases y with y | y <;> omega)] at this
        exact rr_f (fun c => z2 (nI_inj (show besA H k < 2 ^ 31 by omega) (by omega) c)) (fin0 this)
/-- 10 .. 9 + k -/
theorem M_i10_y {q : Int32 → DD → Prop} {d : DD} {n k : Nat} (hk : k ≤ 100) (h1 : 10 ≤ n) (h2 : n < 10 + k) (h : q 1 d) : Cn SM MX5_in [.long (nI n).toInt64, .long 10, .long (9 + nI k).toInt64] d (rI q) := by
  refine M_inL (fun _ _ => h) (fun z => absurd ?_ z)
  rw [li_9, nI_add, Int32.toInt_toInt64, Int32.toInt_toInt64, nI_toInt (by omega), nI_toInt (by omega), show ((10 : Int64)).toInt = 10 from rfl]
  omega
theorem M_i10_n {q : Int32 → DD → Prop} {d : DD} {v : Int32} {k : Nat} (hk : k ≤ 100) (hz : ∀ j, j < k → v ≠ nI (10 + j)) (h : q 0 d) : Cn SM MX5_in [.long v.toInt64, .long 10, .long (9 + nI k).toInt64] d (rI q) := by
  refine M_inL (fun a b => ?_) (fun _ => h)
  rw [Int32.toInt_toInt64] at a
  rw [li_9, nI_add, Int32.toInt_toInt64, Int32.toInt_toInt64, nI_toInt (by omega)] at b
  rw [show ((10 : Int64)).toInt = 10 from rfl] at a
  obtain ⟨j, hj, rfl⟩ := nI_of (x := v) (fun c => by have := i_lt.mp c; rw [show ((0 : Int32)).toInt = 0 from rfl] at this; omega)
  rw [nI_toInt hj] at a b
  exact absurd (by rw [show 10 + (j - 10) = j by omega]) (hz (j - 10) (by omega))
/-- what is asked: 0, 1, 10 and more, or nothing -/
theorem ten_or {v : Int32} {k : Nat} (hk : k ≤ 100) : (∃ p, p < k ∧ v = nI (10 + p)) ∨ ((∀ j, j < k → v ≠ nI (10 + j)) ∧ (v < 10 ∨ (¬ v < 10 ∧ ∀ j, j < k → v - 10 ≠ nI j))) := by
  by_cases c : ∃ p, p < k ∧ v = nI (10 + p)
  · exact Or.inl c
  · have c' : ∀ j, j < k → v ≠ nI (10 + j) := fun j hj e => c ⟨j, hj, e⟩
    refine Or.inr ⟨c', ?_⟩
    by_cases z : v < 10
    · exact Or.inl z
    · refine Or.inr ⟨z, fun j hj e => ?_⟩
      obtain ⟨n, hn, rfl⟩ := nI_of (x := v) (fun y => z (by have := i_lt.mp y; exact i_lt.mpr (by rw [show ((10 : Int32)).toInt = 10 from rfl]; rw [show ((0 : Int32)).toInt = 0 from rfl] at this; omega)))
      rw [li_10] at z e
      have z : 10 ≤ n := by
        rcases Nat.lt_or_ge n 10 with y | y
        · exact absurd ((nI_ltI (by omega) (by omega)).mpr y) z
        · exact y
      rw [pk_sub z] at e
      have := nI_inj (by omega) (by omega) e
      exact c' j hj (by rw [show 10 + j = n by omega])
theorem two_best {x m : DD} {H : HH} {p0 : Int32} (hR : RelH H x m) : Two MX4_best MX5_best [.ref 0, .int p0] x m := by
  obtain ⟨ok, hX, hM, hO⟩ := id hR
  have o4 := ok.p4
  have t4 := ok.t4
  have iH : isH 23 := by unfold isH; omega
  have xs : ∀ {w f : Nat} {q : Int32 → DD → Prop} {p0 : Int32}, ((w < 2 ∧ f = 0) ∨ (f = 1 ∧ ∃ p, p < nP H ∧ w = 10 + p)) → p0 = nI w → (0 < nT H → ∀ d', XK x d' → q (besV H w) d') → (nT H = 0 → q (-2) x) → Ev SX MX4_best 41 [.ref 0, .int p0, .int (nI f), uJ, uJ, uJ, uJ, uJ, uJ, uJ] [] x (rI q) := by
    intro w f q p0 hw e h1 h2
    subst e
    refine bk_X4_best_41 ?_
    rw [hX.nt]
    rcases Nat.eq_zero_or_pos (nT H) with z | z
    · exact br_f (by rw [z]; decide) (h2 z)
    · refine br_t (by rw [li_1]; exact (nI_leI (by omega) (by omega)).mpr z) (X_becomeH iH isH1 (by omega) hX ok fun d2 g1 g2 => ?_)
      rw [(hX.kept (fun a _ _ => g1 a (by omega))).nt, (hX.kept (fun a _ _ => g1 a (by omega))).np]
      exact X_power (by omega) (X_best_98 hX ok z hw (fun a ha => g1 a (by omega)) g2 (h1 z))
  have ms : ∀ {w : Nat} {q : Int32 → DD → Prop} {p0 : Int32}, (w < 2 ∨ ∃ p, p < nP H ∧ w = 10 + p) → p0 = nI w → (0 < nT H → ∀ d', MK m d' → q (besV H w) d') → (nT H = 0 → q (-2) m) → Ev SM MX5_best 31 [.ref 0, .int p0, uJ, uJ, uJ, uJ, uJ, uJ] [] m (rI q) := by
    intro w q p0 hw e h1 h2
    subst e
    refine bk_X5_best_31 ?_
    rw [hM.nt]
    rcases Nat.eq_zero_or_pos (nT H) with z | z
    · exact rr_t (by rw [z]; rfl) (h2 z)
    · exact rr_f (fun y => absurd (nI_inj (b := 0) (by omega) (by omega) y) (by omega)) (M_copies (f := 0) (t := 280) (by omega) (by omega) (by omega) fun d2 g1 g2 g3 => M_best_61 ok hO.sil z hw (MB.beg MK.rf g1 g2 g3) (hM.kept (fun j _ _ => by rw [g1 0 (by omega)]) (fun j _ _ => g2 j (by omega)) ok) (h1 z))
  rcases ge_of (n := 2) (v := p0) (by omega) with ⟨w, hw, e⟩ | hz
  · have p10 : p0 < 10 := by rw [e, li_10]; exact (nI_ltI (by omega) (by omega)).mpr (by omega)
    have hx : ∀ {q : Int32 → DD → Prop}, Ev SX MX4_best 41 [.ref 0, .int p0, .int (nI 0), uJ, uJ, uJ, uJ, uJ, uJ, uJ] [] x (rI q) → Cn SX MX4_best [.ref 0, .int p0] x (rI q) := fun t => cn_X4_best (br_t p10 (bk_X4_best_25 (by rw [e] at t ⊢; exact X_win_y (n := 1) (by omega) (by omega) (y1 t))))
    have hm : ∀ {q : Int32 → DD → Prop}, Ev SM MX5_best 31 [.ref 0, .int p0, uJ, uJ, uJ, uJ, uJ, uJ] [] m (rI q) → Cn SM MX5_best [.ref 0, .int p0] m (rI q) := fun t => cn_X5_best (by rw [e] at t ⊢; exact M_win_y (n := 1) (by omega) (by omega) (y1 t))
    rcases Nat.eq_zero_or_pos (nT H) with z | z
    · exact two_ask hR (-2) (hx (xs (Or.inl ⟨hw, rfl⟩) e (fun y => absurd y (by omega)) (fun _ => ⟨rfl, XK.rf⟩))) (hm (ms (Or.inl hw) e (fun y => absurd y (by omega)) (fun _ => ⟨rfl, MK.rf⟩)))
    · exact two_ask hR (besV H w) (hx (xs (Or.inl ⟨hw, rfl⟩) e (fun _ d' g => ⟨rfl, g⟩) (fun y => absurd y (by omega)))) (hm (ms (Or.inl hw) e (fun _ d' g => ⟨rfl, g⟩) (fun y => absurd y (by omega))))
  · rcases ten_or (v := p0) (k := nP H) (by omega) with ⟨p, hp, e⟩ | ⟨hz2, hz3⟩
    · have p10 : ¬ p0 < 10 := by rw [e, li_10]; exact fun c => absurd ((nI_ltI (by omega) (by omega)).mp c) (by omega)
      have e10 : p0 - 10 = nI p := by rw [e, li_10, pk_sub (by omega), show 10 + p - 10 = p by omega]
      have hx : ∀ {q : Int32 → DD → Prop}, Ev SX MX4_best 41 [.ref 0, .int p0, .int (nI 1), uJ, uJ, uJ, uJ, uJ, uJ, uJ] [] x (rI q) → Cn SX MX4_best [.ref 0, .int p0] x (rI q) := fun t => cn_X4_best (br_f p10 (by rw [e10]; exact X_hasPlayer_y isH1 hX ok hp (y1' (bk_X4_best_25 (X_win_n (n := 1) (by omega) hz (y0 (rr_f (by decide) t)))))))
      have hm : ∀ {q : Int32 → DD → Prop}, Ev SM MX5_best 31 [.ref 0, .int p0, uJ, uJ, uJ, uJ, uJ, uJ] [] m (rI q) → Cn SM MX5_best [.ref 0, .int p0] m (rI q) := fun t => cn_X5_best (M_win_n (n := 1) (by omega) hz (y0 (by rw [hM.np]; rw [e] at t ⊢; exact M_i10_y (by omega) (by omega) (by omega) (y1 t))))
      rcases Nat.eq_zero_or_pos (nT H) with z | z
      · exact two_ask hR (-2) (hx (xs (Or.inr ⟨rfl, p, hp, rfl⟩) e (fun y => absurd y (by omega)) (fun _ => ⟨rfl, XK.rf⟩))) (hm (ms (Or.inr ⟨p, hp, rfl⟩) e (fun y => absurd y (by omega)) (fun _ => ⟨rfl, MK.rf⟩)))
      · exact two_ask hR (besV H (10 + p)) (hx (xs (Or.inr ⟨rfl, p, hp, rfl⟩) e (fun _ d' g => ⟨rfl, g⟩) (fun y => absurd y (by omega)))) (hm (ms (Or.inr ⟨p, hp, rfl⟩) e (fun _ d' g => ⟨rfl, g⟩) (fun y => absurd y (by omega))))
    · have hx : Ev SX MX4_best 25 [.ref 0, .int p0, uJ, uJ, uJ, uJ, uJ, uJ, uJ, uJ] [.int 0] x (rI fun r' d => r' = -1 ∧ XK x d) := bk_X4_best_25 (X_win_n (n := 1) (by omega) hz (y0 (rr_t rfl ⟨rfl, XK.rf⟩)))
      refine two_ask hR (-1) (cn_X4_best ?_) (cn_X5_best (M_win_n (n := 1) (by omega) hz (y0 ?_)))
      · rcases hz3 with y | ⟨y, y2⟩
        · exact br_t y hx
        · exact br_f y (X_hasPlayer_n isH1 hX ok y2 (y0' hx))
      · rw [hM.np]; exact M_i10_n (by omega) hz2 (y0 ⟨rfl, MK.rf⟩)
