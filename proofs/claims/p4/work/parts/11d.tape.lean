/-! ===== one part of what is kept is changed ===== -/
theorem RT.k {x m x' m' : DD} (h : RT x m) (h1 : x' 36 1 = x 36 1) (h2 : x' 37 = x 37) (h3 : m' 0 10 = m 0 10) (h4 : m' 3 = m 3) : RT x' m' := by
  obtain ⟨n, a1, a2, a3, a4⟩ := h
  exact ⟨n, a1, by rw [h1]; exact a2, by rw [h3]; exact a3, fun i hi => by rw [h2, h4]; exact a4 i hi⟩
theorem RSe.k {x m x' m' : DD} (h : RSe x m) (h0 : x' 0 11 = x 0 11) (h1 : x' 49 = x 49) (h2 : x' 50 = x 50) (h3 : x' 51 = x 51) (h4 : m' 0 28 = m 0 28) (h5 : m' 12 = m 12) : RSe x' m' := by
  obtain ⟨n, a1, a2, a3, a4⟩ := h
  exact ⟨n, a1, by rw [h0]; exact a2, by rw [h4]; exact a3, fun i hi => by rw [h1, h2, h3, h5]; exact a4 i hi⟩
theorem RIm.k {H : HH} {x m x' m' : DD} {k : Nat} (h : RIm H x m k) (h1 : x' 35 k = x 35 k) (h2 : ∀ a, 52 + 11 * k ≤ a → a ≤ 62 + 11 * k → x' a = x a) (h3 : m' 13 k = m 13 k) (h4 : ∀ j, 1 ≤ j → j ≤ 3 → m' 0 j = m 0 j) (h5 : ∀ j, 70 * (k + 1) ≤ j → j < 70 * (k + 1) + 70 → m' 1 j = m 1 j) : RIm H x' m' k := by
  rcases h with ⟨a1, a2⟩ | ⟨a1, a2, Hk, a3, a4, a5, a6⟩
  · exact Or.inl ⟨by rw [h1]; exact a1, by rw [h3]; exact a2⟩
  · exact Or.inr ⟨by rw [h1]; exact a1, by rw [h3]; exact a2, Hk, a3, a4, a5.kept (fun a b1 b2 => h2 a (by omega) (by omega)), a6.kept h4 (fun j b1 b2 => h5 j (by omega) (by omega)) a3⟩
theorem RSh.k {x m x' m' : DD} {k : Nat} (h : RSh x m k) (h1 : x' (74 + 2 * k) = x (74 + 2 * k)) (h2 : x' (75 + 2 * k) = x (75 + 2 * k)) (h3 : m' 14 k = m 14 k) (h4 : m' 15 k = m 15 k) (h5 : ∀ i, i < 40 → m' 16 (40 * k + i) = m 16 (40 * k + i)) : RSh x' m' k := by
  rcases h with ⟨a1, a2⟩ | ⟨a1, l, n, a2, a3, a4, a5, a6, a7, a8⟩
  · exact Or.inl ⟨by rw [h1]; exact a1, by rw [h3]; exact a2⟩
  · exact Or.inr ⟨by rw [h1]; exact a1, l, n, a2, a3, by rw [h1]; exact a4, by rw [h3]; exact a5, by rw [h1]; exact a6, by rw [h4]; exact a7, fun i hi => by rw [h2, h5 i (by omega)]; exact a8 i hi⟩
theorem RC.k {m m' : DD} (h : RC m) (h4 : m' 4 = m 4) (h5 : m' 5 = m 5) : RC m' := ⟨fun i hi => by rw [h4]; exact h.1 i hi, fun i hi => by rw [h5]; exact h.2 i hi⟩
theorem RelO.flt {H : HH} {x m : DD} (h : RelO H x m) : RF (x 36 2) (m 0 11) := h.2.2.2.2.2.2.1
theorem RelO.tr {H : HH} {x m : DD} (h : RelO H x m) : x 0 12 = m 0 34 := h.2.2.2.2.2.2.2
/-- the tape -/
theorem RelH.tape {H : HH} {x m x' m' : DD} (hR : RelH H x m) (hT : RT x' m') (hx : ∀ a, a ≠ 36 → a ≠ 37 → x' a = x a) (hx2 : RF (x' 36 2) (m' 0 11)) (hm : ∀ a, a ≠ 0 → a ≠ 3 → m' a = m a) (hm2 : ∀ j, 1 ≤ j ∧ j ≤ 3 ∨ 25 < j → m' 0 j = m 0 j) : RelH H x' m' := by
  obtain ⟨ok, hX, hM, b1, b2, b3, b4, b5, b6, b7, b8⟩ := hR
  refine ⟨ok, hX.kept (fun a _ _ => hx a (by omega) (by omega)), hM.kept (fun j _ _ => hm2 j (by omega)) (fun j _ _ => by rw [hm 1 (by omega) (by omega)]) ok, hT, b2.k (by rw [hx 0 (by omega) (by omega)]) (hx 49 (by omega) (by omega)) (hx 50 (by omega) (by omega)) (hx 51 (by omega) (by omega)) (hm2 28 (by omega)) (hm 12 (by omega) (by omega)), fun k hk => (b3 k hk).k (by rw [hx 35 (by omega) (by omega)]) (fun a _ _ => hx a (by omega) (by omega)) (by rw [hm 13 (by omega) (by omega)]) (fun j _ _ => hm2 j (by omega)) (fun j _ _ => by rw [hm 1 (by omega) (by omega)]), fun k hk => (b4 k hk).k (hx _ (by omega) (by omega)) (hx _ (by omega) (by omega)) (by rw [hm 14 (by omega) (by omega)]) (by rw [hm 15 (by omega) (by omega)]) (fun i _ => by rw [hm 16 (by omega) (by omega)]), b5.k (hm 4 (by omega) (by omega)) (hm 5 (by omega) (by omega)), ?_, hx2, ?_⟩
  · rw [hm2 26 (by omega)]; exact b6
  · rw [hx 0 (by omega) (by omega), hm2 34 (by omega)]; exact b8
/-- what was seen -/
theorem RelH.seen {H : HH} {x m x' m' : DD} (hR : RelH H x m) (hT : RSe x' m') (hx : ∀ a, a ≠ 0 → a ≠ 49 → a ≠ 50 → a ≠ 51 → x' a = x a) (hx2 : ∀ j, j ≠ 11 → x' 0 j = x 0 j) (hm : ∀ a, a ≠ 0 → a ≠ 12 → m' a = m a) (hm2 : ∀ j, j ≠ 28 → m' 0 j = m 0 j) : RelH H x' m' := by
  obtain ⟨ok, hX, hM, b1, b2, b3, b4, b5, b6, b7, b8⟩ := hR
  have hx' := fun a (h : (1 ≤ a ∧ a < 49) ∨ 51 < a) => hx a (by omega) (by omega) (by omega) (by omega)
  refine ⟨ok, hX.kept (fun a _ _ => hx' a (by omega)), hM.kept (fun j _ _ => hm2 j (by omega)) (fun j _ _ => by rw [hm 1 (by omega) (by omega)]) ok, b1.k (by rw [hx' 36 (by omega)]) (hx' 37 (by omega)) (hm2 10 (by omega)) (hm 3 (by omega) (by omega)), hT, fun k hk => (b3 k hk).k (by rw [hx' 35 (by omega)]) (fun a _ _ => hx' a (by omega)) (by rw [hm 13 (by omega) (by omega)]) (fun j _ _ => hm2 j (by omega)) (fun j _ _ => by rw [hm 1 (by omega) (by omega)]), fun k hk => (b4 k hk).k (hx' _ (by omega)) (hx' _ (by omega)) (by rw [hm 14 (by omega) (by omega)]) (by rw [hm 15 (by omega) (by omega)]) (fun i _ => by rw [hm 16 (by omega) (by omega)]), b5.k (hm 4 (by omega) (by omega)) (hm 5 (by omega) (by omega)), ?_, ?_, ?_⟩
  · rw [hm2 26 (by omega)]; exact b6
  · rw [hx' 36 (by omega), hm2 11 (by omega)]; exact b7
  · rw [hx2 12 (by omega), hm2 34 (by omega)]; exact b8
/-- a sheet -/
theorem RelH.sheet {H : HH} {x m x' m' : DD} {k : Nat} (hR : RelH H x m) (hk : k < 4) (hT : RSh x' m' k) (hx : ∀ a, a ≠ 74 + 2 * k → a ≠ 75 + 2 * k → x' a = x a) (hm : ∀ a, a ≠ 14 → a ≠ 15 → a ≠ 16 → m' a = m a) (h14 : ∀ j, j ≠ k → m' 14 j = m 14 j) (h15 : ∀ j, j ≠ k → m' 15 j = m 15 j) (h16 : ∀ j, j < 40 * k ∨ 40 * k + 40 ≤ j → m' 16 j = m 16 j) : RelH H x' m' := by
  obtain ⟨ok, hX, hM, b1, b2, b3, b4, b5, b6, b7, b8⟩ := hR
  have hx' := fun a (h : a < 74) => hx a (by omega) (by omega)
  have hm' := fun a (h : a < 14) => hm a (by omega) (by omega) (by omega)
  refine ⟨ok, hX.kept (fun a _ _ => hx' a (by omega)), hM.kept (fun j _ _ => by rw [hm' 0 (by omega)]) (fun j _ _ => by rw [hm' 1 (by omega)]) ok, b1.k (by rw [hx' 36 (by omega)]) (hx' 37 (by omega)) (by rw [hm' 0 (by omega)]) (hm' 3 (by omega)), b2.k (by rw [hx' 0 (by omega)]) (hx' 49 (by omega)) (hx' 50 (by omega)) (hx' 51 (by omega)) (by rw [hm' 0 (by omega)]) (hm' 12 (by omega)), fun i hi => (b3 i hi).k (by rw [hx' 35 (by omega)]) (fun a _ _ => hx' a (by omega)) (by rw [hm' 13 (by omega)]) (fun j _ _ => by rw [hm' 0 (by omega)]) (fun j _ _ => by rw [hm' 1 (by omega)]), fun i hi => ?_, b5.k (hm' 4 (by omega)) (hm' 5 (by omega)), ?_, ?_, ?_⟩
  · by_cases c : i = k
    · subst c; exact hT
    · exact (b4 i hi).k (hx _ (by omega) (by omega)) (hx _ (by omega) (by omega)) (h14 i c) (h15 i c) (fun j hj => h16 _ (by omega))
  · rw [hm' 0 (by omega)]; exact b6
  · rw [hx' 36 (by omega), hm' 0 (by omega)]; exact b7
  · rw [hx' 0 (by omega), hm' 0 (by omega)]; exact b8
theorem nI_64 {n : Nat} (h : n < 2 ^ 31) : (nI n).toInt64 = lN n := Int64.toInt_inj.mp (by rw [Int32.toInt_toInt64, nI_toInt h, lN_toInt h])
theorem two_feed {x m : DD} {H : HH} {p0 : Int32} (hR : RelH H x m) : Two MX4_feed MX5_feed [.ref 0, .int p0] x m := by
  obtain ⟨ok, hX, hM, hO⟩ := id hR
  obtain ⟨n, a1, a2, a3, a4⟩ := hO.1
  rcases ge_of (n := 128) (v := p0) (by omega) with ⟨c, hc, rfl⟩ | hz
  · by_cases f : n = 160
    · refine two_ask hR (-3) (cn_X4_feed (X_win_y (n := 127) (by omega) (by omega) (y1 (cn_X3_append (br_f ?_ ⟨rfl, XK.rf⟩))))) (cn_X5_feed (M_win_y (n := 127) (by omega) (by omega) (y1 (rr_t ?_ ⟨rfl, MK.rf⟩))))
      · rw [a2, f]; decide
      · rw [a3, f]; rfl
    · have hT : RT (up (up x 37 n (nI c)) 36 1 (nI (n + 1))) (up (up m 3 n (nI c)) 0 10 (nI (n + 1))) := by
        refine ⟨n + 1, (by omega), up_s, up_s, fun i hi => ?_⟩
        rw [up_ne 37 (by omega), up_ne 3 (by omega), up_rd, up_rd]
        by_cases z : i = n
        · rw [if_pos ⟨rfl, z⟩, if_pos ⟨rfl, z⟩]; exact ⟨rfl, c, (by omega), rfl⟩
        · rw [if_neg (by omega), if_neg (by omega)]; exact a4 i (by omega)
      have h2 := hR.tape hT (fun a _ _ => by rw [up_ne a (by omega), up_ne a (by omega)]) (by rw [up_n (by omega), up_n (by omega), up_n (by omega), up_n (by omega)]; exact hO.flt) (fun a _ _ => by rw [up_ne a (by omega), up_ne a (by omega)]) (fun j _ => by rw [up_n (by omega), up_n (by omega)])
      refine two_chg (nI (n + 1)) _ _ h2 (cn_X4_feed (X_win_y (n := 127) (by omega) (by omega) (y1 (cn_X3_append (br_t ?_ ?_))))) (cn_X5_feed (M_win_y (n := 127) (by omega) (by omega) (y1 (rr_f ?_ ?_))))
      · rw [a2, li_160]; exact (nI_ltI (by omega) (by omega)).mpr (by omega)
      · rw [a2, nI_clamp (by omega)]
        refine ⟨vp_in_nI (by omega) (by omega), nm_e (nm_e ?_)⟩
        rw [show up x 37 n (nI c) 36 1 = nI n from by rw [up_n (by omega)]; exact a2, nI_1]
        exact ⟨up_s, rfl⟩
      · rw [a3, li_160]; exact fun z => f (nI_inj (by omega) (by omega) z)
      · rw [a3, nI_clamp (by omega)]
        refine ⟨vp_in_nI (by omega) (by omega), nm_e (nm_e ?_)⟩
        rw [show up m 3 n (nI c) 0 10 = nI n from by rw [up_n (by omega)]; exact a3, nI_1]
        exact ⟨up_s, rfl⟩
  · exact two_ask hR (-1) (cn_X4_feed (X_win_n (n := 127) (by omega) hz (y0 ⟨rfl, XK.rf⟩))) (cn_X5_feed (M_win_n (n := 127) (by omega) hz (y0 ⟨rfl, MK.rf⟩)))
theorem two_end {x m : DD} {H : HH} {p0 : Int32} (hR : RelH H x m) : Two MX4_end MX5_end [.ref 0, .int p0] x m := by
  obtain ⟨ok, hX, hM, hO⟩ := id hR
  obtain ⟨n, a1, a2, a3, a4⟩ := hO.1
  rcases ge_of (n := n + 1) (v := p0) (by omega) with ⟨c, hc, rfl⟩ | hz
  · have hT : RT (up x 36 1 (nI c)) (up m 0 10 (nI c)) := ⟨c, (by omega), up_s, up_s, fun i hi => by rw [up_ne 37 (by omega), up_ne 3 (by omega)]; exact a4 i (by omega)⟩
    have h2 := hR.tape hT (fun a _ _ => up_ne a (by omega)) (by rw [up_n (by omega), up_n (by omega)]; exact hO.flt) (fun a _ _ => up_ne a (by omega)) (fun j _ => up_n (by omega))
    refine two_chg (nI n) _ _ h2 (cn_X4_end ?_) (cn_X5_end ?_)
    · rw [a2]; exact X_win_y (by omega) (by omega) (y1 (nm_e ⟨rfl, rfl⟩))
    · rw [a3, nI_64 (n := n) (by omega)]; exact M_win_y (n := n) (by omega) (by omega) (y1 (nm_e ⟨a3, rfl⟩))
  · refine two_ask hR (-1) (cn_X4_end ?_) (cn_X5_end ?_)
    · rw [a2]; exact X_win_n (by omega) hz (y0 ⟨rfl, XK.rf⟩)
    · rw [a3, nI_64 (n := n) (by omega)]; exact M_win_n (by omega) hz (y0 ⟨rfl, MK.rf⟩)
theorem two_forget {x m : DD} {H : HH} {p0 : Int32} (hR : RelH H x m) : Two MX4_forget MX5_forget [.ref 0, .int p0] x m := by
  obtain ⟨ok, hX, hM, hO⟩ := id hR
  obtain ⟨n, a1, a2, a3, a4⟩ := hO.2.1
  rcases ge_of (n := n + 1) (v := p0) (by omega) with ⟨c, hc, rfl⟩ | hz
  · have hT : RSe (up x 0 11 (nI c)) (up m 0 28 (nI c)) := ⟨c, (by omega), up_s, up_s, fun i hi => by rw [up_ne 49 (by omega), up_ne 50 (by omega), up_ne 51 (by omega), up_ne 12 (by omega)]; exact a4 i (by omega)⟩
    have h2 := hR.seen hT (fun a _ _ _ _ => up_ne a (by omega)) (fun j _ => up_n (by omega)) (fun a _ _ => up_ne a (by omega)) (fun j _ => up_n (by omega))
    refine two_chg (nI n) _ _ h2 (cn_X4_forget ?_) (cn_X5_forget ?_)
    · rw [a2]; exact X_win_y (by omega) (by omega) (y1 (nm_e ⟨rfl, rfl⟩))
    · rw [a3, nI_64 (n := n) (by omega)]; exact M_win_y (n := n) (by omega) (by omega) (y1 (nm_e ⟨a3, rfl⟩))
  · refine two_ask hR (-1) (cn_X4_forget ?_) (cn_X5_forget ?_)
    · rw [a2]; exact X_win_n (by omega) hz (y0 ⟨rfl, XK.rf⟩)
    · rw [a3, nI_64 (n := n) (by omega)]; exact M_win_n (by omega) hz (y0 ⟨rfl, MK.rf⟩)
