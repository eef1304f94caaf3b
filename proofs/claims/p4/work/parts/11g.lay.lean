/-! ===== lay ===== -/
def narV (l : Nat) (v : Int32) : Int32 := if l = 0 then v.toInt8.toInt32 else if l = 1 then v.toInt16.toInt32 else v
theorem X_narrowed {q : Int32 → DD → Prop} {d : DD} {l : Nat} {v : Int32} (hl : l ≤ 2) (h : q (narV l v) d) : Cn SX MX2_narrowed [.int (nI l), .int v] d (rI q) := by
  rcases lt3 (show l < 3 by omega) with rfl | rfl | rfl
  · exact cn_X2_narrowed (br_t rfl h)
  · exact cn_X2_narrowed (br_f (by decide) (br_t rfl h))
  · exact cn_X2_narrowed (br_f (by decide) (br_f (by decide) h))
theorem c64_ne {v : Int32} {n : Nat} (h : ∀ j, j < n → v ≠ nI j) (hn : n < 2 ^ 31) : ∀ j, j < n → v.toInt64.toInt ≠ (j : Int) := by
  intro j hj e
  rw [Int32.toInt_toInt64] at e
  exact h j hj (Int32.toInt_inj.mp (by rw [nI_toInt (by omega)]; exact e))
theorem two_lay {x m : DD} {H : HH} {p0 p1 p2 : Int32} (hR : RelH H x m) : Two MX4_lay MX5_lay [.ref 0, .int p0, .int p1, .int p2] x m := by
  obtain ⟨ok, hX, hM, hO⟩ := id hR
  rcases ge_of (n := 4) (v := p0) (by omega) with ⟨k, hk, rfl⟩ | hz
  · have i4 : vp_in (nI k) 4 := vp_in_nI (by omega) (by omega)
    rcases hO.2.2.2.1 k hk with ⟨a1, a2⟩ | ⟨a1, l, n, a2, a3, a4, a5, a6, a7, a8⟩
    · refine two_ask hR (-11) (cn_X4_lay (X_win_y (n := 3) (by omega) (by omega) (y1 ⟨i4, fun b4 hb4 e => rr_t ?_ ⟨rfl, XK.rf⟩⟩))) (cn_X5_lay (M_win_y (n := 3) (by omega) (by omega) (y1 ⟨i4, rr_t ?_ ⟨rfl, MK.rf⟩⟩)))
      · rw [e, shB_n hk]; exact a1
      · rw [nI_clamp (by omega)]; exact a2
    · rcases ge_of (n := n) (v := p1) (by omega) with ⟨i, hi, rfl⟩ | hz2
      · have hix : 40 * k + i < 160 := by omega
        have f1 : (40 : Int32) * nI k + nI i = nI (40 * k + i) := by rw [li_40, pk_mul, nI_add]
        have h2 : RelH H (up x (75 + 2 * k) i (narV l p2)) (up m 16 (40 * k + i) (narV l p2)) := by
          refine hR.sheet hk (Or.inr ⟨?_, l, n, a2, a3, ?_, ?_, ?_, ?_, fun j hj => ?_⟩) (fun a h1 h2 => up_ne a h2) (fun a _ _ h3 => up_ne a h3) (fun j _ => by rw [up_ne 14 (by omega)]) (fun j _ => by rw [up_ne 15 (by omega)]) (fun j hj => up_n (by omega))
          · rw [up_n (by omega)]; exact a1
          · rw [up_n (by omega)]; exact a4
          · rw [up_n (by omega)]; exact a5
          · rw [up_n (by omega)]; exact a6
          · rw [up_n (by omega)]; exact a7
          · rw [up_rd, up_rd]
            by_cases z : j = i
            · rw [if_pos ⟨rfl, z⟩, if_pos ⟨rfl, by rw [z]⟩]
            · rw [if_neg (by omega), if_neg (by omega)]; exact a8 j hj
        refine two_chg 1 _ _ h2 (cn_X4_lay (X_win_y (n := 3) (by omega) (by omega) (y1 ⟨i4, fun b4 hb4 e => rr_f ?_ ?_⟩))) (cn_X5_lay (M_win_y (n := 3) (by omega) (by omega) (y1 ⟨i4, rr_f ?_ ⟨i4, ?_⟩⟩)))
        · rw [e, shB_n hk, a1]; decide
        · have e := e.trans (shB_n hk)
          subst e
          refine X_hasCell hb4 a6 (by omega) (fun j hj _ => y1 ?_) (fun z => absurd (by rw [Int32.toInt_toInt64, nI_toInt (by omega)]) (z i hi))
          rw [a4]
          refine X_narrowed a2 ⟨vp_in_nI (by omega) (by omega), nm_e ⟨rfl, ?_⟩⟩
          rw [nI_clamp (by omega), show 74 + 2 * k + 1 = 75 + 2 * k by omega]
        · rw [nI_clamp (by omega), a5]; exact fun z => ne_m4 (show l < 2 ^ 31 by omega) z
        · rw [nI_clamp (by omega), a7]
          refine M_wil (by omega) (fun _ _ _ => y1 ⟨i4, ?_⟩) (fun z => absurd rfl (z i hi))
          rw [a5, f1, nI_clamp (by omega)]
          have i160 : vp_in (nI (40 * k + i)) 160 := vp_in_nI (by omega) (by omega)
          rcases lt3 (show l < 3 by omega) with rfl | rfl | rfl
          · exact rr_t rfl ⟨i160, nm_e ⟨rfl, by rw [← nar8]; rfl⟩⟩
          · exact rr_f (by decide) ⟨i4, rr_t rfl ⟨i160, nm_e ⟨rfl, by rw [← nar16]; rfl⟩⟩⟩
          · exact rr_f (by decide) ⟨i4, rr_f (by decide) ⟨i160, nm_e ⟨rfl, rfl⟩⟩⟩
      · refine two_ask hR (-12) (cn_X4_lay (X_win_y (n := 3) (by omega) (by omega) (y1 ⟨i4, fun b4 hb4 e => rr_f ?_ ?_⟩))) (cn_X5_lay (M_win_y (n := 3) (by omega) (by omega) (y1 ⟨i4, rr_f ?_ ⟨i4, ?_⟩⟩)))
        · rw [e, shB_n hk, a1]; decide
        · have e := e.trans (shB_n hk)
          subst e
          exact X_hasCell hb4 a6 (by omega) (fun j hj z => absurd z (c64_ne hz2 (by omega) j hj)) (fun _ => y0 ⟨rfl, XK.rf⟩)
        · rw [nI_clamp (by omega), a5]; exact fun z => ne_m4 (show l < 2 ^ 31 by omega) z
        · rw [nI_clamp (by omega), a7]
          exact M_wil (by omega) (fun j hj z => absurd z (hz2 j hj)) (fun _ => y0 ⟨rfl, MK.rf⟩)
  · exact two_ask hR (-1) (cn_X4_lay (X_win_n (n := 3) (by omega) hz (y0 ⟨rfl, XK.rf⟩))) (cn_X5_lay (M_win_n (n := 3) (by omega) hz (y0 ⟨rfl, MK.rf⟩)))
