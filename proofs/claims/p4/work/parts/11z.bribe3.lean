theorem isB_ex {g : Nat → Bool} : ∀ k, ∃ R, isB g 0 k R := by
  intro k
  induction k with
  | zero => exact ⟨0, Or.inl ⟨rfl, fun c _ hc => absurd hc (Nat.not_lt_zero c)⟩⟩
  | succ k ih =>
    obtain ⟨R, h⟩ := ih
    cases hg : g k
    · exact ⟨R, isB_up0 h hg⟩
    · by_cases z : R = 0
      · exact ⟨k + 1, isB_up1 h hg (Or.inl z)⟩
      · by_cases y : bitsN (R - 1) 6 ≤ bitsN k 6
        · exact ⟨R, isB_skip h z y⟩
        · exact ⟨k + 1, isB_up1 h hg (Or.inr (by omega))⟩
theorem pow6 {n : Nat} (h : n ≤ 6) : 2 ^ n ≤ 64 := Nat.le_trans (Nat.pow_le_pow_right (by decide) h) (by decide)
theorem two_bribe {x m : DD} {H : HH} {p0 p1 p2 : Int32} (hR : RelH H x m) : Two MX4_bribe MX5_bribe [.ref 0, .int p0, .int p1, .int p2] x m := by
  obtain ⟨ok, hX, hM, hO⟩ := id hR
  have o6 := ok.b6
  have o4 := ok.p4
  have h64 := pow6 o6
  have h16 := pow6 (n := nP H) (by omega)
  have ex : ((1 : Int32) <<< ((x 1 2) &&& 31)) - 1 = nI (2 ^ nB H) - 1 := by rw [hX.nb, shl1 (by omega)]
  have em : ((1 : Int32) <<< ((m 0 3) &&& 31)) - 1 = nI (2 ^ nB H) - 1 := by rw [hM.nb, shl1 (by omega)]
  rcases ge_of (n := 2 ^ nB H) (v := p0) (by omega) with ⟨st, hst, rfl⟩ | hz
  · have gx : ∀ {q : Int32 → DD → Prop}, q 1 x → Cn SX MX4_within [.int (nI st), .int 0, .int (((1 : Int32) <<< ((x 1 2) &&& 31)) - 1)] x (rI q) := fun h => by rw [ex]; exact X_wil (by omega) (fun _ _ _ => h) (fun z => absurd rfl (z st hst))
    have gm : ∀ {q : Int32 → DD → Prop}, q 1 m → Cn SM MX5_in [.long (nI st).toInt64, .long 0, .long (((1 : Int32) <<< ((m 0 3) &&& 31)) - 1).toInt64] m (rI q) := fun h => by rw [em]; exact M_wil (by omega) (fun _ _ _ => h) (fun z => absurd rfl (z st hst))
    rcases ge_of (n := 160) (v := p1) (by omega) with ⟨mi, hmi, rfl⟩ | hz2
    · rcases ge_of (n := 2) (v := p2) (by omega) with ⟨w, hw, rfl⟩ | hz3
      · obtain ⟨R, hB⟩ := isB_ex (g := briG H st mi) (2 ^ nP H)
        refine two_ask hR (briV R w) (cn_X4_bribe (gx (y1' (X_win_y (n := 159) (by omega) (by omega) (y1' (X_win_y (n := 1) (by omega) (by omega) (y1' ?_))))))) (cn_X5_bribe (gm (y1' (M_isMinute_y hmi (y1' (M_win_y (n := 1) (by omega) (by omega) (y1 (nm_e ?_))))))))
        · exact X_bribe_59 hX ok (by omega) hmi hw (fun R' d' h' g => ⟨by rw [isB_uniq hB h'], g⟩)
        · rw [hM.np, shl1 (by omega)]
          exact M_bribe_51 hM ok hO.sil (by omega) hmi hw (fun R' d' h' g => ⟨by rw [isB_uniq hB h'], g⟩) (2 ^ nP H) 0 m (Nat.le_refl _) (Or.inl ⟨rfl, fun c h1 h2 => absurd h1 (by omega)⟩) (MK26.of MK.rf hO.sil)
      · exact two_ask hR (-1) (cn_X4_bribe (gx (y1' (X_win_y (n := 159) (by omega) (by omega) (y1' (X_win_n (n := 1) (by omega) hz3 (y0' ⟨rfl, XK.rf⟩))))))) (cn_X5_bribe (gm (y1' (M_isMinute_y hmi (y1' (M_win_n (n := 1) (by omega) hz3 (y0 ⟨rfl, MK.rf⟩)))))))
    · exact two_ask hR (-1) (cn_X4_bribe (gx (y1' (X_win_n (n := 159) (by omega) hz2 (y0' ⟨rfl, XK.rf⟩))))) (cn_X5_bribe (gm (y1' (M_isMinute_n hz2 (y0' ⟨rfl, MK.rf⟩)))))
  · refine two_ask hR (-1) (cn_X4_bribe ?_) (cn_X5_bribe ?_)
    · rw [ex]; exact X_wil (by omega) (fun j hj e => absurd e (hz j hj)) (fun _ => y0' ⟨rfl, XK.rf⟩)
    · rw [em]; exact M_wil (by omega) (fun j hj e => absurd e (hz j hj)) (fun _ => y0' ⟨rfl, MK.rf⟩)
