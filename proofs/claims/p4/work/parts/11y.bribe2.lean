def MK26 (m d : DD) : Prop := MK m (up d 0 26 (nI 0))
theorem MK26.of {m d : DD} (h : MK m d) (hs : m 0 26 = nI 0) : MK26 m d := by
  refine ⟨fun j hj => ?_, fun j hj => by rw [up_ne 1 (by omega)]; exact h.2.1 j hj, fun a ha => by rw [up_ne a (by omega)]; exact h.2.2 a ha⟩
  rw [up_rd]; split
  · rename_i z; rw [z.2]; exact hs.symm
  · exact h.1 j hj
theorem MK26.st {m d d' : DD} {v : Int32} (h : MK26 m d) (f : MF (up d 0 26 v) d') : MK26 m d' := by
  refine ⟨fun j hj => ?_, fun j hj => ?_, fun a ha => ?_⟩
  · have := h.1 j hj
    rw [← this, up_rd, up_rd]
    split
    · rfl
    · rename_i z; rw [f 0 (by omega), up_n z]
  · have := h.2.1 j hj
    rw [up_ne 1 (by omega)] at this
    rw [up_ne 1 (by omega), f 1 (by omega), up_ne 1 (by omega)]; exact this
  · have := h.2.2 a ha
    rw [up_ne a (by omega)] at this
    rw [up_ne a (by omega), f a (by omega), up_ne a (by omega)]; exact this
theorem MH.mk26 {m d : DD} {H : HH} {v : Int32} (h : MH 0 m H) (ok : OKH H) (k : MK26 m d) : MH 0 (up d 0 26 v) H := h.kept (fun j _ _ => by have := k.1 j (by omega); rw [up_n (by omega)] at this; rw [up_n (by omega)]; exact this) (fun j _ _ => by have := k.2.1 j (by omega); rw [up_ne 1 (by omega)] at this; rw [up_ne 1 (by omega)]; exact this) ok
theorem M_bribe_72 {q : Int32 → DD → Prop} {d : DD} {H : HH} {P : PL} {st mi : Nat} {l3 l4 l5 : Int32} (hM : MH 0 d H) (ok : OKH H) (hI : Pinv H 160 P) (hE : ME d H P) (hs : st < 64) (hm : mi < 160) (h : Ev SM MX5_bribe 72 [.ref 0, .int (nI st), .int (nI mi), .int l3, .int l4, .int l5, .int (b2 (allB H P st mi (nB H))), .int (nI (nB H))] [] d (rI q)) : Ev SM MX5_bribe 72 [.ref 0, .int (nI st), .int (nI mi), .int l3, .int l4, .int l5, .int 1, .int (nI 0)] [] d (rI q) := by
  have o6 := ok.b6
  have o4 := ok.t4
  refine for_up (W := fun k d' => Ev SM MX5_bribe 72 [.ref 0, .int (nI st), .int (nI mi), .int l3, .int l4, .int l5, .int (b2 (allB H P st mi k)), .int (nI k)] [] d' (rI q)) (I := fun k d' => d' = d) (nB H) ?_ ?_ 0 d (Nat.zero_le _) rfl
  · rintro d' rfl
    exact h
  · rintro k d' hk rfl ih
    have hb := ok.bb hk
    have b0 := (hI.2.2.1 _ hb).1
    have := ih d' rfl
    rw [show allB H P st mi (k + 1) = (allB H P st mi k && outB H P st mi k) from rfl] at this
    refine bk_X5_bribe_72 (br_f ?_ ?_)
    · rw [hM.nb]; exact fun c => absurd ((nI_leI (by omega) (by omega)).mp c) (by omega)
    · rw [nI_1]
      cases ha : allB H P st mi k
      · rw [ha, Bool.false_and] at this; exact br_t rfl this
      · rw [ha, Bool.true_and] at this
        unfold outB at this
        refine br_f (by decide) ?_
        rw [bit_of (by omega) (by omega)]
        cases hbt : st.testBit k
        · rw [hbt] at this; exact br_t rfl this
        · rw [hbt, Bool.not_true, Bool.false_or] at this
          refine br_f (by decide) ?_
          rw [show (64 : Int32) + nI k = nI (64 + k) from nI_add 64 k]
          refine ⟨vp_in_nI (by omega) (by omega), ?_⟩
          rw [nI_clamp (by omega), hM.bond hk]
          refine ⟨vp_in_nI (by omega) (by omega), ?_⟩
          rw [nI_clamp (by omega), (hE.1 _ hb).2.1]
          have c2 : nI mi < nI (P 0 (H 9 k) - 1) ↔ mi < P 0 (H 9 k) - 1 := nI_ltI (by omega) (by omega)
          by_cases z : P 0 (H 9 k) - 1 ≤ mi
          · rw [decide_eq_true z] at this; exact br_f (fun c => absurd (c2.mp c) (by omega)) this
          · rw [decide_eq_false z] at this; exact br_t (c2.mpr (by omega)) this
theorem M_bribe_51 {q : Int32 → DD → Prop} {m : DD} {H : HH} {st mi w : Nat} (hM : MH 0 m H) (ok : OKH H) (hs0 : m 0 26 = nI 0) (hs : st < 64) (hm : mi < 160) (hw : w < 2) (h : ∀ R d', isB (briG H st mi) 0 (2 ^ nP H) R → MK m d' → q (briV R w) d') : ∀ k R d', k ≤ 2 ^ nP H → isB (briG H st mi) k (2 ^ nP H) R → MK26 m d' → Ev SM MX5_bribe 51 [.ref 0, .int (nI st), .int (nI mi), .int (nI w), .int (mv R), .int (nI k - 1), uJ, uJ] [] d' (rI q) := by
  have o4 := ok.p4
  have o6 := ok.b6
  have hN : 2 ^ nP H ≤ 16 := Nat.le_trans (Nat.pow_le_pow_right (by decide) o4) (by decide)
  intro k
  induction k with
  | zero =>
    intro R d' _ hB g1
    have h := h R _ hB g1
    have hR : R ≤ 16 := by rcases hB with ⟨a, _⟩ | ⟨_, _, c, _⟩ <;> omega
    refine bk_X5_bribe_51 (br_t m1_lt (nm_e ?_))
    unfold briV at h
    unfold mv
    by_cases z : R = 0
    · rw [if_pos z] at h; rw [if_pos z]; exact br_t rfl h
    · rw [if_neg z] at h; rw [if_neg z]
      refine br_f (ne_m4 (by omega)) ?_
      rcases (show w = 0 ∨ w = 1 by omega) with rfl | rfl
      · exact rr_f (by decide) (M_bitsOf (by omega) h)
      · exact rr_t rfl h
  | succ k ih =>
    intro R d' hk hB g1
    have hR : R ≤ 16 := by rcases hB with ⟨a, _⟩ | ⟨_, _, c, _⟩ <;> omega
    rw [nI_pred]
    refine bk_X5_bribe_51 (br_f ?_ (nm_e (M_playing (sil := k) (hM.mk26 ok g1) ok up_s (by omega) fun d2 f e => ?_)))
    · rw [li_0]; exact fun c => absurd ((nI_ltI (by omega) (by omega)).mp c) (by omega)
    · have hM2 := (hM.mk26 ok g1 (v := nI k)).mf ok f
      have g2 := g1.st f
      refine M_bribe_72 hM2 ok (play_inv ok) e hs hm (bk_X5_bribe_72 (br_t ?_ ?_))
      · rw [hM2.nb]; exact nI_le (Nat.le_refl _) (by omega)
      · rw [nI_m1]
        cases hg : allB H (playS H k) st mi (nB H)
        · exact br_t rfl (ih R d2 (by omega) (isB_dn0 hB (Or.inl hg)) g2)
        · refine br_f (by decide) ?_
          have nx := fun hb => ih (k + 1) d2 (by omega) (isB_dn1 hB (by omega) hg hb) g2
          rw [mv_s] at nx
          by_cases z : R = 0
          · exact br_t (by unfold mv; rw [if_pos z]) (nx (Or.inl z))
          · have em : mv R = nI (R - 1) := if_neg z
            have b6 := bits6 (K := k)
            have b6' := bits6 (K := R - 1)
            have ih0 := fun hb => ih R d2 (by omega) (isB_dn0 hB (Or.inr ⟨z, hb⟩)) g2
            rw [em] at ih0 ⊢
            refine br_f (ne_m4 (by omega)) (M_bitsOf (by omega) (M_bitsOf (by omega) ?_))
            have c2 : nI (bitsN (R - 1) 6) < nI (bitsN k 6) ↔ bitsN (R - 1) 6 < bitsN k 6 := nI_ltI (by omega) (by omega)
            by_cases y : bitsN (R - 1) 6 < bitsN k 6
            · exact br_t (c2.mpr y) (ih0 y)
            · exact br_f (mt c2.mp y) (nx (Or.inr (by omega)))
