/-! ===== compose ===== -/
abbrev cok (L c : Nat) : Prop := L % rowL (c % 4) (c / 4 + 1) = 0 ∧ L / rowL (c % 4) (c / 4 + 1) ≤ 9
def cpick (L w c : Nat) : Int32 := if w = 0 then nI (c / 4 + 1) else if w = 1 then nI (c % 4) else nI (L / rowL (c % 4) (c / 4 + 1))
def compV (L w : Nat) : Int32 := if fa_first (fun c => decide (cok L c)) 32 = 32 then -4 else cpick L w (fa_first (fun c => decide (cok L c)) 32)
theorem compV_at {L w c : Nat} (hc : c < 32) (h : cok L c) (hno : ∀ j, j < c → ¬ cok L j) : compV L w = cpick L w c := by
  have e : fa_first (fun c => decide (cok L c)) 32 = c := first_is hc (decide_eq_true h) (fun j hj => decide_eq_false (hno j hj))
  unfold compV
  rw [e, if_neg (by omega)]
theorem compV_no {L w : Nat} (hno : ∀ j, j < 32 → ¬ cok L j) : compV L w = -4 := by
  have e : fa_first (fun c => decide (cok L c)) 32 = 32 := first_none (fun j hj => decide_eq_false (hno j hj))
  unfold compV
  rw [e, if_pos rfl]
theorem X_comp {q : Int32 → DD → Prop} {d : DD} {L w : Nat} (hL : 1 ≤ L) (hL2 : L ≤ 144) (hw : w < 3) (h : q (compV L w) d) (c : Nat) (hc : c < 32) (hno : ∀ j, j < c → ¬ cok L j) (nx : c + 1 < 32 → (∀ j, j < c + 1 → ¬ cok L j) → Ev SX MX4_compose 33 [.ref 0, .int (nI L), .int (nI w), .int (nI ((c + 1) / 4 + 1)), .int (nI ((c + 1) % 4)), uJ] [] d (rI q)) : Ev SX MX4_compose 33 [.ref 0, .int (nI L), .int (nI w), .int (nI (c / 4 + 1)), .int (nI (c % 4)), uJ] [] d (rI q) := by
  have hk : c % 4 ≤ 3 := by omega
  have hn : c / 4 + 1 ≤ 8 := by omega
  have r1 := rowL_pos (k := c % 4) (n := c / 4 + 1) (by omega)
  have r2 := rowL_le (k := c % 4) (n := c / 4 + 1) hn
  have fail : ¬ cok L c → Ev SX MX4_compose 33 [.ref 0, .int (nI L), .int (nI w), .int (nI (c / 4 + 1)), .int (nI (c % 4 + 1)), uJ] [] d (rI q) := by
    intro hc2
    have hno' : ∀ j, j < c + 1 → ¬ cok L j := fun j hj => by
      by_cases z : j = c
      · subst z; exact hc2
      · exact hno j (by omega)
    by_cases z : c % 4 + 1 = 4
    · refine bk_X4_compose_33 (br_t (by rw [z]; decide) ?_)
      rw [nI_1]
      by_cases y : c + 1 = 32
      · refine bk_X4_compose_24 (br_t ?_ ?_)
        · rw [show c / 4 + 1 + 1 = 9 by omega]; decide
        · rw [compV_no (fun j hj => hno' j (by omega))] at h; exact h
      · refine bk_X4_compose_24 (br_f ?_ ?_)
        · rw [li_8]; exact fun x => absurd ((nI_ltI (by omega) (by omega)).mp x) (by omega)
        · have := nx (by omega) hno'
          rw [show (c + 1) / 4 + 1 = c / 4 + 1 + 1 by omega, show (c + 1) % 4 = 0 by omega] at this
          exact this
    · have := nx (by omega) hno'
      rw [show (c + 1) / 4 + 1 = c / 4 + 1 by omega, show (c + 1) % 4 = c % 4 + 1 by omega] at this
      exact this
  refine bk_X4_compose_33 (br_f ?_ ?_)
  · rw [li_4]; exact fun x => absurd ((nI_leI (by omega) (by omega)).mp x) (by omega)
  · rw [li_1]
    have key : ∀ n t, t + n = 10 → 1 ≤ t → (∀ u, 1 ≤ u → u < t → u * rowL (c % 4) (c / 4 + 1) ≠ L) → Ev SX MX4_compose 42 [.ref 0, .int (nI L), .int (nI w), .int (nI (c / 4 + 1)), .int (nI (c % 4)), .int (nI t)] [] d (rI q) := by
      intro n
      induction n with
      | zero =>
        intro t e _ hu
        have e : t = 10 := by omega
        subst e
        refine bk_X4_compose_42 (br_t (by decide) ?_)
        rw [nI_1]
        refine fail (fun z => ?_)
        have a1 := Nat.div_add_mod L (rowL (c % 4) (c / 4 + 1))
        rw [z.1, Nat.add_zero, Nat.mul_comm] at a1
        have a2 := z.2
        rcases Nat.eq_zero_or_pos (L / rowL (c % 4) (c / 4 + 1)) with y | y
        · rw [y, Nat.zero_mul] at a1; omega
        · exact hu _ y (by omega) a1
      | succ n ih =>
        intro t e h1 hu
        refine bk_X4_compose_42 (br_f ?_ (X_rowLength hk hn ?_))
        · rw [li_9]; exact fun x => absurd ((nI_ltI (by omega) (by omega)).mp x) (by omega)
        · have hb : t * rowL (c % 4) (c / 4 + 1) ≤ 9 * 16 := Nat.mul_le_mul (by omega) r2
          rw [pk_mul, nI_1]
          refine ⟨fun z => ih (t + 1) (by omega) (by omega) (fun u u1 u2 => ?_), fun z => ?_⟩
          · by_cases y : u = t
            · subst y; exact fun x => z (by rw [x])
            · exact hu u u1 (by omega)
          · have z := nI_inj (by omega) (by omega) z
            have hd : L / rowL (c % 4) (c / 4 + 1) = t := by rw [← z]; exact Nat.mul_div_cancel _ r1
            have hok : cok L c := ⟨by rw [← z]; exact Nat.mul_mod_left _ _, by rw [hd]; omega⟩
            rw [compV_at hc hok hno] at h
            unfold cpick at h
            rcases lt3 hw with rfl | rfl | rfl
            · exact rr_t rfl h
            · exact rr_f (by decide) (rr_t rfl h)
            · rw [hd] at h; exact rr_f (by decide) (rr_f (by decide) h)
    exact key 9 1 (by omega) (by omega) (fun u u1 u2 => absurd u2 (by omega))
theorem M_comp {q : Int32 → DD → Prop} {d : DD} {L w : Nat} (hL : 1 ≤ L) (hL2 : L ≤ 144) (hw : w < 3) (h : q (compV L w) d) (c : Nat) (hc : c < 32) (hno : ∀ j, j < c → ¬ cok L j) (nx : c + 1 < 32 → (∀ j, j < c + 1 → ¬ cok L j) → Ev SM MX5_compose 37 [.ref 0, .int (nI L), .int (nI w), .int (nI ((c + 1) / 4 + 1)), .int (nI ((c + 1) % 4)), uJ] [] d (rI q)) : Ev SM MX5_compose 37 [.ref 0, .int (nI L), .int (nI w), .int (nI (c / 4 + 1)), .int (nI (c % 4)), uJ] [] d (rI q) := by
  have hk : c % 4 ≤ 3 := by omega
  have hn : c / 4 + 1 ≤ 8 := by omega
  have r1 := rowL_pos (k := c % 4) (n := c / 4 + 1) (by omega)
  have r2 := rowL_le (k := c % 4) (n := c / 4 + 1) hn
  have fail : ¬ cok L c → Ev SM MX5_compose 37 [.ref 0, .int (nI L), .int (nI w), .int (nI (c / 4 + 1)), .int (nI (c % 4 + 1)), uJ] [] d (rI q) := by
    intro hc2
    have hno' : ∀ j, j < c + 1 → ¬ cok L j := fun j hj => by
      by_cases z : j = c
      · subst z; exact hc2
      · exact hno j (by omega)
    by_cases z : c % 4 + 1 = 4
    · refine bk_X5_compose_37 (br_t (by rw [z]; decide) ?_)
      rw [nI_1]
      by_cases y : c + 1 = 32
      · refine bk_X5_compose_28 (br_t ?_ ?_)
        · rw [show c / 4 + 1 + 1 = 9 by omega]; decide
        · rw [compV_no (fun j hj => hno' j (by omega))] at h; exact h
      · refine bk_X5_compose_28 (br_f ?_ ?_)
        · rw [li_8]; exact fun x => absurd ((nI_ltI (by omega) (by omega)).mp x) (by omega)
        · have := nx (by omega) hno'
          rw [show (c + 1) / 4 + 1 = c / 4 + 1 + 1 by omega, show (c + 1) % 4 = 0 by omega] at this
          exact this
    · have := nx (by omega) hno'
      rw [show (c + 1) / 4 + 1 = c / 4 + 1 by omega, show (c + 1) % 4 = c % 4 + 1 by omega] at this
      exact this
  refine bk_X5_compose_37 (br_f ?_ (M_rowOf hk hn ?_))
  · rw [li_4]; exact fun x => absurd ((nI_leI (by omega) (by omega)).mp x) (by omega)
  · have r0 : ¬ nI (rowL (c % 4) (c / 4 + 1)) = 0 := fun z => absurd (nI_inj (b := 0) (by omega) (by omega) z) (by omega)
    rw [jrem_nI (by omega) (by omega) (by omega), pk_div (by omega) (by omega) (by omega), nI_1]
    refine ⟨r0, fun z => fail (fun y => z (by rw [y.1]; rfl)), fun z => ⟨r0, fun y => fail (fun x => ?_), fun y => ?_⟩⟩
    · rw [li_9] at y
      have := (nI_ltI (by omega) (Nat.lt_of_le_of_lt (Nat.div_le_self _ _) (by omega))).mp y
      exact absurd x.2 (by omega)
    · rw [li_0] at z
      have z := nI_inj (Nat.lt_of_le_of_lt (Nat.mod_le _ _) (by omega)) (by omega) z
      have hle : L / rowL (c % 4) (c / 4 + 1) ≤ 9 := by
        rcases Nat.lt_or_ge 9 (L / rowL (c % 4) (c / 4 + 1)) with x | x
        · rw [li_9] at y
          exact absurd ((nI_ltI (by omega) (Nat.lt_of_le_of_lt (Nat.div_le_self _ _) (by omega))).mpr x) y
        · exact x
      rw [compV_at hc ⟨z, hle⟩ hno] at h
      unfold cpick at h
      rcases lt3 hw with rfl | rfl | rfl
      · exact rr_t rfl h
      · exact rr_f (by decide) (rr_t rfl h)
      · exact rr_f (by decide) (rr_f (by decide) ⟨r0, h⟩)
theorem two_compose {x m : DD} {H : HH} {p0 p1 : Int32} (hR : RelH H x m) : Two MX4_compose MX5_compose [.ref 0, .int p0, .int p1] x m := by
  rcases ge1_of (n := 144) (v := p0) with ⟨L, hL, hL2, rfl⟩ | hz
  · rcases ge_of (n := 3) (v := p1) (by omega) with ⟨w, hw, rfl⟩ | hz2
    · have kx : ∀ n c, c + n = 31 → (∀ j, j < c → ¬ cok L j) → Ev SX MX4_compose 33 [.ref 0, .int (nI L), .int (nI w), .int (nI (c / 4 + 1)), .int (nI (c % 4)), uJ] [] x (rI fun r' d => r' = compV L w ∧ XK x d) := by
        intro n
        induction n with
        | zero => intro c e hno; exact X_comp hL hL2 hw ⟨rfl, XK.rf⟩ c (by omega) hno (fun z => absurd z (by omega))
        | succ n ih => intro c e hno; exact X_comp hL hL2 hw ⟨rfl, XK.rf⟩ c (by omega) hno (fun z hno' => ih (c + 1) (by omega) hno')
      have km : ∀ n c, c + n = 31 → (∀ j, j < c → ¬ cok L j) → Ev SM MX5_compose 37 [.ref 0, .int (nI L), .int (nI w), .int (nI (c / 4 + 1)), .int (nI (c % 4)), uJ] [] m (rI fun r' d => r' = compV L w ∧ MK m d) := by
        intro n
        induction n with
        | zero => intro c e hno; exact M_comp hL hL2 hw ⟨rfl, MK.rf⟩ c (by omega) hno (fun z => absurd z (by omega))
        | succ n ih => intro c e hno; exact M_comp hL hL2 hw ⟨rfl, MK.rf⟩ c (by omega) hno (fun z hno' => ih (c + 1) (by omega) hno')
      refine two_ask hR (compV L w) (cn_X4_compose (X_w1_y (n := 144) (by omega) hL hL2 (y1' (X_win_y (n := 2) (by omega) (by omega) (y1 (bk_X4_compose_24 (br_f (by decide) ?_))))))) (cn_X5_compose (M_w1_y (n := 144) (by omega) hL hL2 (y1' (M_win_y (n := 2) (by omega) (by omega) (y1 (bk_X5_compose_28 (br_f (by decide) ?_)))))))
      · exact kx 31 0 (by omega) (fun j hj => absurd hj (Nat.not_lt_zero j))
      · exact km 31 0 (by omega) (fun j hj => absurd hj (Nat.not_lt_zero j))
    · exact two_ask hR (-1) (cn_X4_compose (X_w1_y (n := 144) (by omega) hL hL2 (y1' (X_win_n (n := 2) (by omega) hz2 (y0 ⟨rfl, XK.rf⟩))))) (cn_X5_compose (M_w1_y (n := 144) (by omega) hL hL2 (y1' (M_win_n (n := 2) (by omega) hz2 (y0 ⟨rfl, MK.rf⟩)))))
  · exact two_ask hR (-1) (cn_X4_compose (X_w1_n (n := 144) (by omega) hz (y0' ⟨rfl, XK.rf⟩))) (cn_X5_compose (M_w1_n (n := 144) (by omega) hz (y0' ⟨rfl, MK.rf⟩)))
