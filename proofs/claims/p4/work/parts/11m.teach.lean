/-! ===== teach ===== -/
def tauA (H : HH) (p : Nat) : Nat := awayS (pu H 5 p 9) (playS (pu H 5 p 9) 0)
def teaS (H : HH) : Nat → Nat × Nat := itr (fun p s => if tauA H p < s.1 then (tauA H p, p + 1) else s) (awayS H (playS H 0), 0)
theorem teaS_s (H : HH) (k : Nat) : teaS H (k + 1) = if tauA H k < (teaS H k).1 then (tauA H k, k + 1) else teaS H k := rfl
theorem OKH.skill9 {H : HH} (ok : OKH H) (p : Nat) : OKH (pu H 5 p 9) := ok.put (by omega) ⟨by simp, by simp, by simp, by simp, by simp, fun _ => (by omega), by simp, by simp, by simp, by simp⟩
theorem tauA_le {H : HH} (ok : OKH H) (p : Nat) : tauA H p ≤ 6 := awayS_le (ok.skill9 p)
theorem teaS_le {H : HH} (ok : OKH H) : ∀ k, (teaS H k).1 ≤ 6 ∧ (teaS H k).2 ≤ k := by
  intro k
  induction k with
  | zero => exact ⟨awayS_le ok, Nat.le_refl _⟩
  | succ k ih =>
    rw [teaS_s]
    split
    · exact ⟨tauA_le ok k, Nat.le_refl _⟩
    · exact ⟨ih.1, by omega⟩
def teaV (s : Nat × Nat) (w : Nat) : Int32 := if s.2 = 0 then -4 else if w = 0 then nI (s.2 - 1) else nI s.1
theorem pinv_pu5 {H : HH} {m p v : Nat} {P : PL} (h : Pinv (pu H 5 p v) m P) : Pinv H m P := h
theorem awayS_pu5 {H : HH} {p v : Nat} {P : PL} : awayS (pu H 5 p v) P = awayS H P := rfl
theorem X_teach_51 {q : Int32 → DD → Prop} {x d : DD} {H : HH} {w : Nat} (hX : XH 1 x H) (ok : OKH H) (hw : w < 2) (hk0 : XK x d) (h23 : XH 23 d H) (h : ∀ d', XK x d' → q (teaV (teaS H (nP H)) w) d') : Ev SX MX4_teach 51 [.ref 0, .int (nI w), .int (nI (awayS H (playS H 0))), .int (-1), .int (nI 0), uJ] [] d (rI q) := by
  have o4 := ok.p4
  have iH : isH 23 := by unfold isH; omega
  refine for_up (W := fun k d' => Ev SX MX4_teach 51 [.ref 0, .int (nI w), .int (nI (teaS H k).1), .int (mo1 (teaS H k).2), .int (nI k), uJ] [] d' (rI q)) (I := fun k d' => XK x d' ∧ XH 23 d' H) (nP H) ?_ ?_ 0 d (Nat.zero_le _) ⟨hk0, h23⟩
  · rintro d' ⟨g1, g2⟩
    have hle := teaS_le ok (nP H)
    have h := h d' g1
    refine bk_X4_teach_51 ⟨fun _ => ?_, fun c => absurd ?_ c⟩
    · unfold teaV at h
      unfold mo1
      by_cases z : (teaS H (nP H)).2 = 0
      · rw [if_pos z] at h; rw [if_pos z]
        exact br_f (by decide) h
      · rw [if_neg z] at h; rw [if_neg z]
        refine br_t (by rw [li_0]; exact nI_le (Nat.zero_le _) (by omega)) ?_
        rcases (show w = 0 ∨ w = 1 by omega) with rfl | rfl
        · exact rr_t rfl h
        · exact rr_f (by decide) h
    · rw [(hX.xk g1).np]; exact nI_le (Nat.le_refl _) (by omega)
  · rintro k d' hk ⟨g1, g2⟩ ih
    have hle := teaS_le ok k
    have ha := tauA_le ok k
    have i4 : vp_in (nI k) 4 := vp_in_nI (by omega) (by omega)
    refine bk_X4_teach_51 ⟨fun c => ?_, fun _ => ⟨i4, nm_e ?_⟩⟩
    · rw [(hX.xk g1).np] at c; exact absurd ((nI_leI (by omega) (by omega)).mp c) (by omega)
    · rw [nI_clamp (by omega), nI_1]
      have h9 : XH 23 (up d' 29 k 9) (pu H 5 k 9) := g2.put (f := 5) (i := k) (v := 9) (by omega) (fun z => absurd z (by decide))
      refine X_run (sil := 0) iH h9 (ok.skill9 k) (by omega) fun d2 f e => ⟨i4, i4, nm_e ?_⟩
      have g3 : XK x (up d' 29 k 9) := fun a ha => by rw [up_ne a (by omega)]; exact g1 a ha
      have g4 : XK x d2 := g3.tr f.k
      have h7 : d2 7 k = nI (H 5 k) := (hX.xk g4).skill hk
      have g5 : XK x (up d2 29 k (d2 7 k)) := fun a ha => by rw [up_ne a (by omega)]; exact g4 a ha
      have hH : XH 23 (up d2 29 k (d2 7 k)) H := by
        have h9' : XH 23 d2 (pu H 5 k 9) := h9.kept (fun a _ _ => f a (by omega))
        rw [h7]
        have := h9'.put (f := 5) (i := k) (v := H 5 k) (by omega) (fun z => absurd z (by decide))
        rw [show pu (pu H 5 k 9) 5 k (H 5 k) = H from by
          funext g j
          rw [pu_rd]; split
          · rename_i z; rw [z.1, z.2]
          · rename_i z; rw [pu_n z]] at this
        exact this
      have e' : XE (up d2 29 k (d2 7 k)) H (playS (pu H 5 k 9) 0) := by
        refine ⟨fun t ht => ?_, fun p hp => ?_⟩
        · rw [up_ne 39 (by omega), up_ne 40 (by omega), up_ne 41 (by omega)]; exact e.1 t ht
        · rw [up_ne 42 (by omega)]; exact e.2 p hp
      refine X_away iH hH ok (pinv_pu5 (play_inv (ok.skill9 k))) e' ?_
      have := ih _ ⟨g5, hH⟩
      rw [teaS_s] at this
      refine ⟨fun c => ?_, fun c => ?_⟩
      · have c := (nI_leI (show (teaS H k).1 < 2 ^ 31 by omega) (show tauA H k < 2 ^ 31 by omega)).mp c
        rw [if_neg (by omega)] at this; exact this
      · have c : tauA H k < (teaS H k).1 := by
          rcases Nat.lt_or_ge (tauA H k) (teaS H k).1 with y | y
          · exact y
          · exact absurd ((nI_leI (show (teaS H k).1 < 2 ^ 31 by omega) (show tauA H k < 2 ^ 31 by omega)).mpr y) c
        rw [if_pos c] at this; exact this
theorem M_teach_23 {q : Int32 → DD → Prop} {x d : DD} {H : HH} {w : Nat} (hM : MH 0 x H) (ok : OKH H) (hs : x 0 26 = nI 0) (hw : w < 2) (hk0 : MK x d) (h : ∀ d', MK x d' → q (teaV (teaS H (nP H)) w) d') : Ev SM MX5_teach 23 [.ref 0, .int (nI w), .int (nI (awayS H (playS H 0))), .int (-4), .int (nI 0), uJ, uJ] [] d (rI q) := by
  have o4 := ok.p4
  refine for_up (W := fun k d' => Ev SM MX5_teach 23 [.ref 0, .int (nI w), .int (nI (teaS H k).1), .int (mv (teaS H k).2), .int (nI k), uJ, uJ] [] d' (rI q)) (I := fun k d' => MK x d') (nP H) ?_ ?_ 0 d (Nat.zero_le _) hk0
  · rintro d' g1
    have hle := teaS_le ok (nP H)
    have h := h d' g1
    refine bk_X5_teach_23 ⟨fun _ => ?_, fun c => absurd ?_ c⟩
    · unfold teaV at h
      unfold mv
      by_cases z : (teaS H (nP H)).2 = 0
      · rw [if_pos z] at h; rw [if_pos z]
        exact br_t rfl h
      · rw [if_neg z] at h; rw [if_neg z]
        refine br_f (ne_m4 (by omega)) ?_
        rcases (show w = 0 ∨ w = 1 by omega) with rfl | rfl
        · exact rr_t rfl h
        · exact rr_f (by decide) h
    · rw [(hM.mk ok g1).np]; exact nI_le (Nat.le_refl _) (by omega)
  · rintro k d' hk g1 ih
    have hle := teaS_le ok k
    have ha := tauA_le ok k
    have hM' := hM.mk ok g1
    refine bk_X5_teach_23 ⟨fun c => ?_, fun _ => ?_⟩
    · rw [hM'.np] at c; exact absurd ((nI_leI (by omega) (by omega)).mp c) (by omega)
    · rw [show (48 : Int32) + nI k = nI (48 + k) from nI_add 48 k]
      have i4 : vp_in (nI (48 + k)) 350 := vp_in_nI (by omega) (by omega)
      refine ⟨i4, nm_e ⟨i4, nm_e ?_⟩⟩
      rw [nI_clamp (by omega), nI_1]
      have h9 : MH 0 (up d' 1 (48 + k) 9) (pu H 5 k 9) := by
        have := hM'.put (f := 5) (i := k) (v := 9) ok (by omega) (show k < 4 by omega) (fun z => absurd z (by decide)) (fun z => absurd z (by decide))
        rw [Nat.zero_add] at this
        exact this
      refine M_awayMany (sil := 0) h9 (ok.skill9 k) (by rw [up_ne 0 (by omega), g1.1 26 (by omega)]; exact hs) (by omega) fun d2 f e => ⟨i4, nm_e ?_⟩
      have g3 : MK x (up d2 1 (48 + k) (d' 1 (48 + k))) := by
        refine ⟨fun j hj => ?_, fun j hj => ?_, fun a ha => ?_⟩
        · rw [up_ne 0 (by omega), f 0 (by omega), up_ne 0 (by omega)]; exact g1.1 j hj
        · rw [up_rd]; split
          · rename_i z; rw [z.2]; exact g1.2.1 _ (by omega)
          · rename_i z; rw [f 1 (by omega), up_n (by omega)]; exact g1.2.1 j hj
        · rw [up_ne a (by omega), f a (by omega), up_ne a (by omega)]; exact g1.2.2 a ha
      have := ih _ g3
      rw [teaS_s] at this
      refine ⟨fun c => ?_, fun c => ?_⟩
      · have c' := (nI_leI (show (teaS H k).1 < 2 ^ 31 by omega) (show tauA H k < 2 ^ 31 by omega)).mp c
        rw [if_neg (by omega)] at this; exact br_t c this
      · have c' : tauA H k < (teaS H k).1 := by
          rcases Nat.lt_or_ge (tauA H k) (teaS H k).1 with y | y
          · exact y
          · exact absurd ((nI_leI (show (teaS H k).1 < 2 ^ 31 by omega) (show tauA H k < 2 ^ 31 by omega)).mpr y) c
        rw [if_pos c', mv_s] at this; exact br_f c this
theorem two_teach {x m : DD} {H : HH} {p0 : Int32} (hR : RelH H x m) : Two MX4_teach MX5_teach [.ref 0, .int p0] x m := by
  obtain ⟨ok, hX, hM, hO⟩ := id hR
  have iH : isH 23 := by unfold isH; omega
  rcases ge_of (n := 2) (v := p0) (by omega) with ⟨w, hw, rfl⟩ | hz
  · refine two_ask hR (teaV (teaS H (nP H)) w) (cn_X4_teach (X_win_y (n := 1) (by omega) (by omega) (y1 (X_run (sil := 0) isH1 hX ok (by omega) fun d' f e => X_away isH1 (hX.xk f.k) ok (play_inv ok) e (X_becomeH iH isH1 (by omega) (hX.xk f.k) ok fun d2 g1 g2 => X_teach_51 hX ok hw (f.k.tr (fun a ha => g1 a (by omega))) g2 fun d3 g3 => ⟨rfl, g3⟩))))) (cn_X5_teach (M_win_y (n := 1) (by omega) (by omega) (y1 (M_awayMany (sil := 0) hM ok hO.sil (by omega) fun d' f e => M_teach_23 hM ok hO.sil hw f.k fun d3 g3 => ⟨rfl, g3⟩))))
  · exact two_ask hR (-1) (cn_X4_teach (X_win_n (n := 1) (by omega) hz (y0 ⟨rfl, XK.rf⟩))) (cn_X5_teach (M_win_n (n := 1) (by omega) hz (y0 ⟨rfl, MK.rf⟩)))
