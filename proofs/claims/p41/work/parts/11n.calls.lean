section
/-! ===== powers, figures of a code ===== -/
theorem X_power {q : Int32 → DD → Prop} {d : DD} {b e : Nat} (he : e < 2 ^ 20) (h : q (nI (b ^ e)) d) : Cn SX MX4_power [.int (nI b), .int (nI e)] d (rI q) := by
  refine cn_X4_power ?_
  rw [li_1, li_0]
  refine for_up (W := fun k d' => Ev SX MX4_power 4 [.int (nI b), .int (nI e), .int (nI (b ^ k)), .int (nI k)] [] d' (rI q)) (I := fun k d' => d' = d) e ?_ ?_ 0 d (Nat.zero_le _) rfl
  · rintro d' rfl
    exact bk_X4_power_4 ⟨fun _ => h, fun c => absurd (nI_le (Nat.le_refl _) (by omega)) c⟩
  · rintro k d' hk rfl ih
    refine bk_X4_power_4 ⟨fun c => absurd ((nI_leI (by omega) (by omega)).mp c) (by omega), fun _ => ?_⟩
    rw [pk_mul, nI_1]
    exact ih d' rfl
theorem M_powerOf {q : Int32 → DD → Prop} {d : DD} {b e : Nat} (he : e < 2 ^ 20) (h : q (nI (b ^ e)) d) : Cn SM MX5_powerOf [.int (nI b), .int (nI e)] d (rI q) := by
  refine cn_X5_powerOf ?_
  rw [li_1, li_0]
  refine for_up (W := fun k d' => Ev SM MX5_powerOf 4 [.int (nI b), .int (nI e), .int (nI (b ^ k)), .int (nI k)] [] d' (rI q)) (I := fun k d' => d' = d) e ?_ ?_ 0 d (Nat.zero_le _) rfl
  · rintro d' rfl
    exact bk_X5_powerOf_4 ⟨fun _ => h, fun c => absurd (nI_le (Nat.le_refl _) (by omega)) c⟩
  · rintro k d' hk rfl ih
    refine bk_X5_powerOf_4 ⟨fun c => absurd ((nI_leI (by omega) (by omega)).mp c) (by omega), fun _ => ?_⟩
    rw [pk_mul, nI_1]
    exact ih d' rfl
/-- figure i of a code -/
def fig (code base many i : Nat) : Nat := code / base ^ (many - 1 - i) % base
theorem fig_lt {code base many i : Nat} (hb : 0 < base) : fig code base many i < base := Nat.mod_lt _ hb
theorem nI_m1 (n : Nat) : nI n + (-1) = nI n - 1 := by
  rw [show nI n - 1 = nI n + (-1) from by rw [Int32.sub_eq_add_neg]]
theorem m1_lt : (nI 0 - 1 : Int32) < 0 := by decide
theorem div_pow {c b k : Nat} : c / b ^ k / b = c / b ^ (k + 1) := by rw [Nat.div_div_eq_div_mul, Nat.pow_succ]
theorem X_spread {q : DD → Prop} {d : DD} {c np code base many : Nat} (hc : SX[c]? = some (0, np, [])) (hnp : np ≤ 1000) (hm : many ≤ np) (hb : 0 < base) (hb2 : base < 2 ^ 20) (hcd : code < 2 ^ 30) (h : ∀ d', (∀ a, a ≠ c → d' a = d a) → (∀ i, i < many → d' c i = nI (fig code base many i)) → (∀ i, many ≤ i → d' c i = d c i) → q d') : Cn SX MX4_spread [.int (nI code), .int (nI base), .ref c, .int (nI many)] d (rV q) := by
  refine cn_X4_spread hc ?_
  have := for_up (W := fun k d' => Ev SX MX4_spread 8 [.int (nI code), .int (nI base), .ref c, .int (nI many), .int (nI (code / base ^ k)), .int (nI (many - k) - 1)] [] d' (rV q)) (I := fun k d' => (∀ a, a ≠ c → d' a = d a) ∧ (∀ i, many - k ≤ i → i < many → d' c i = nI (fig code base many i)) ∧ ∀ i, many ≤ i → d' c i = d c i) many ?_ ?_ 0 d (Nat.zero_le _) ⟨fun _ _ => rfl, fun i h1 h2 => absurd h1 (by omega), fun _ _ => rfl⟩
  · rw [Nat.pow_zero, Nat.div_one, Nat.sub_zero] at this; exact this
  · rintro d' ⟨g1, g2, g3⟩
    rw [Nat.sub_self]
    exact bk_X4_spread_8 hc (br_t m1_lt (h d' g1 (fun i hi => g2 i (by omega) hi) g3))
  · rintro k d' hk ⟨g1, g2, g3⟩ ih
    have e1 : many - k = (many - k - 1) + 1 := by omega
    have b0 : ¬ nI base = 0 := fun z => absurd (nI_inj (b := 0) (by omega) (by omega) z) (by omega)
    have hcb : code / base ^ k < 2 ^ 31 := Nat.lt_of_le_of_lt (Nat.div_le_self _ _) (by omega)
    rw [e1, nI_pred]
    refine bk_X4_spread_8 hc (br_f ?_ (br_f ?_ ⟨b0, vp_in_nI (by omega) (by omega), nm_e ⟨b0, ?_⟩⟩))
    · rw [li_0]; exact fun x => absurd ((nI_ltI (by omega) (by omega)).mp x) (by omega)
    · rw [li_0]; exact fun x => absurd ((nI_leI (by omega) (by omega)).mp x) (by omega)
    · rw [nI_clamp (by omega), jrem_nI hcb hb (by omega), pk_div hcb hb (by omega), div_pow, nI_m1]
      have := ih (up d' c (many - k - 1) (nI (code / base ^ k % base))) ⟨fun a ha => by rw [up_ne a ha]; exact g1 a ha, fun i h1 h2 => ?_, fun i hi => by rw [up_n (by omega)]; exact g3 i hi⟩
      · rw [show many - (k + 1) = many - k - 1 by omega] at this; exact this
      · rw [up_rd]
        by_cases z : i = many - k - 1
        · rw [if_pos ⟨rfl, z⟩, z]; unfold fig; rw [show many - 1 - (many - k - 1) = k by omega]
        · rw [if_neg (by omega)]; exact g2 i (by omega) h2
theorem M_lays {q : DD → Prop} {d : DD} {o code base many : Nat} (ho : o ≤ 300) (hm : many ≤ 40) (hb : 0 < base) (hb2 : base < 2 ^ 20) (hcd : code < 2 ^ 30) (h : ∀ d', (∀ a, a ≠ 1 → d' a = d a) → (∀ i, i < many → d' 1 (o + i) = nI (fig code base many i)) → (∀ j, j < o ∨ o + many ≤ j → d' 1 j = d 1 j) → q d') : Cn SM MX5_laysFigures [.ref 0, .int (nI code), .int (nI base), .int (nI o), .int (nI many)] d (rV q) := by
  refine cn_X5_laysFigures ?_
  have := for_up (W := fun k d' => Ev SM MX5_laysFigures 9 [.ref 0, .int (nI code), .int (nI base), .int (nI o), .int (nI many), .int (nI (code / base ^ k)), .int (nI (many - k) - 1)] [] d' (rV q)) (I := fun k d' => (∀ a, a ≠ 1 → d' a = d a) ∧ (∀ i, many - k ≤ i → i < many → d' 1 (o + i) = nI (fig code base many i)) ∧ ∀ j, j < o ∨ o + many ≤ j → d' 1 j = d 1 j) many ?_ ?_ 0 d (Nat.zero_le _) ⟨fun _ _ => rfl, fun i h1 h2 => absurd h1 (by omega), fun _ _ => rfl⟩
  · rw [Nat.pow_zero, Nat.div_one, Nat.sub_zero] at this; exact this
  · rintro d' ⟨g1, g2, g3⟩
    rw [Nat.sub_self]
    exact bk_X5_laysFigures_9 (br_t m1_lt (h d' g1 (fun i hi => g2 i (by omega) hi) g3))
  · rintro k d' hk ⟨g1, g2, g3⟩ ih
    have e1 : many - k = (many - k - 1) + 1 := by omega
    have b0 : ¬ nI base = 0 := fun z => absurd (nI_inj (b := 0) (by omega) (by omega) z) (by omega)
    have hcb : code / base ^ k < 2 ^ 31 := Nat.lt_of_le_of_lt (Nat.div_le_self _ _) (by omega)
    rw [e1, nI_pred]
    refine bk_X5_laysFigures_9 (br_f ?_ ⟨b0, ?_⟩)
    · rw [li_0]; exact fun x => absurd ((nI_ltI (by omega) (by omega)).mp x) (by omega)
    · rw [nI_add]
      refine ⟨vp_in_nI (by omega) (by omega), nm_e ⟨b0, ?_⟩⟩
      rw [nI_clamp (by omega), jrem_nI hcb hb (by omega), pk_div hcb hb (by omega), div_pow, nI_m1]
      have := ih (up d' 1 (o + (many - k - 1)) (nI (code / base ^ k % base))) ⟨fun a ha => by rw [up_ne a ha]; exact g1 a ha, fun i h1 h2 => ?_, fun j hj => by rw [up_n (by omega)]; exact g3 j hj⟩
      · rw [show many - (k + 1) = many - k - 1 by omega] at this; exact this
      · rw [up_rd]
        by_cases z : i = many - k - 1
        · rw [if_pos ⟨rfl, by rw [z]⟩, z]; unfold fig; rw [show many - 1 - (many - k - 1) = k by omega]
        · rw [if_neg (by omega)]; exact g2 i (by omega) h2
/-- the house with a field's row from a code -/
def spr (H : HH) (f base many code : Nat) : HH := fun g j => if g = f ∧ j < many then fig code base many j else H g j
theorem spr_f {H : HH} {f base many code j : Nat} (h : j < many) : spr H f base many code f j = fig code base many j := if_pos ⟨rfl, h⟩
theorem spr_n {H : HH} {f base many code g j : Nat} (h : ¬ (g = f ∧ j < many)) : spr H f base many code g j = H g j := if_neg h
def like (H H2 : HH) (f many : Nat) : Prop := ∀ g j, ¬ (g = f ∧ j < many) → H2 g j = H g j
theorem spr_like {H : HH} {f base many code : Nat} : like H (spr H f base many code) f many := fun _ _ h => if_neg h
theorem XH.spr8 {b : Nat} {d d' : DD} {H H2 : HH} {base code : Nat} (h : XH b d H2) (hl : like H H2 8 (nP H)) (h1 : ∀ a, a ≠ b + 9 → d' a = d a) (h2 : ∀ i, i < nP H → d' (b + 9) i = nI (fig code base (nP H) i)) : XH b d' (spr H 8 base (nP H) code) := by
  obtain ⟨a1, a2, a3, a4, a5, a6⟩ := h
  have l0 : ∀ j, H2 10 j = H 10 j := fun j => hl 10 j (by omega)
  have l1 : ∀ g j, g ≠ 8 → H2 g j = H g j := fun g j z => hl g j (by omega)
  have s1 : ∀ g j, g ≠ 8 → spr H 8 base (nP H) code g j = H g j := fun g j z => spr_n (by omega)
  have n1 : nT (spr H 8 base (nP H) code) = nT H2 := (s1 10 0 (by omega)).trans (l0 0).symm
  have n2 : nP (spr H 8 base (nP H) code) = nP H2 := (s1 10 1 (by omega)).trans (l0 1).symm
  have n2' : nP H2 = nP H := l0 1
  have n3 : nB (spr H 8 base (nP H) code) = nB H2 := (s1 10 2 (by omega)).trans (l0 2).symm
  refine ⟨by rw [h1 b (by omega), n1]; exact a1, by rw [h1 b (by omega), n2]; exact a2, by rw [h1 b (by omega), n3]; exact a3, fun t ht => ?_, fun p hp => ?_, fun q hq => ?_⟩
  · rw [n1] at ht
    obtain ⟨b1, b2, b3, b4, b5⟩ := a4 t ht
    rw [l1 _ _ (by omega)] at b1 b2 b3 b4
    refine ⟨by rw [h1 _ (by omega), s1 _ _ (by omega)]; exact b1, by rw [h1 _ (by omega), s1 _ _ (by omega)]; exact b2, by rw [h1 _ (by omega), s1 _ _ (by omega)]; exact b3, by rw [h1 _ (by omega), s1 _ _ (by omega)]; exact b4, fun i hi => ?_⟩
    rw [s1 _ _ (by omega)] at hi
    have := b5 i (by rw [l1 _ _ (by omega)]; exact hi)
    rw [l1 _ _ (by omega)] at this
    rw [h1 _ (by omega), s1 _ _ (by omega)]; exact this
  · rw [n2] at hp
    obtain ⟨b1, b2, b3, b4⟩ := a5 p hp
    rw [l1 _ _ (by omega)] at b1 b2 b3
    exact ⟨by rw [h1 _ (by omega), s1 _ _ (by omega)]; exact b1, by rw [h1 _ (by omega), s1 _ _ (by omega)]; exact b2, by rw [h1 _ (by omega), s1 _ _ (by omega)]; exact b3, by rw [h2 p (by omega), spr_f (by omega)]⟩
  · rw [n3] at hq
    have := a6 q hq
    rw [l1 _ _ (by omega)] at this
    rw [h1 _ (by omega), s1 _ _ (by omega)]; exact this
theorem XH.spr3 {b : Nat} {d d' : DD} {H H2 : HH} {base code : Nat} (h : XH b d H2) (hl : like H H2 3 (nT H)) (h1 : ∀ a, a ≠ b + 4 → d' a = d a) (h2 : ∀ i, i < nT H → d' (b + 4) i = nI (fig code base (nT H) i)) : XH b d' (spr H 3 base (nT H) code) := by
  obtain ⟨a1, a2, a3, a4, a5, a6⟩ := h
  have l0 : ∀ j, H2 10 j = H 10 j := fun j => hl 10 j (by omega)
  have l1 : ∀ g j, g ≠ 3 → H2 g j = H g j := fun g j z => hl g j (by omega)
  have s1 : ∀ g j, g ≠ 3 → spr H 3 base (nT H) code g j = H g j := fun g j z => spr_n (by omega)
  have n1 : nT (spr H 3 base (nT H) code) = nT H2 := (s1 10 0 (by omega)).trans (l0 0).symm
  have n1' : nT H2 = nT H := l0 0
  have n2 : nP (spr H 3 base (nT H) code) = nP H2 := (s1 10 1 (by omega)).trans (l0 1).symm
  have n3 : nB (spr H 3 base (nT H) code) = nB H2 := (s1 10 2 (by omega)).trans (l0 2).symm
  refine ⟨by rw [h1 b (by omega), n1]; exact a1, by rw [h1 b (by omega), n2]; exact a2, by rw [h1 b (by omega), n3]; exact a3, fun t ht => ?_, fun p hp => ?_, fun q hq => ?_⟩
  · rw [n1] at ht
    obtain ⟨b1, b2, b3, b4, b5⟩ := a4 t ht
    rw [l1 _ _ (by omega)] at b1 b2 b3
    refine ⟨by rw [h1 _ (by omega), s1 _ _ (by omega)]; exact b1, by rw [h1 _ (by omega), s1 _ _ (by omega)]; exact b2, by rw [h1 _ (by omega), s1 _ _ (by omega)]; exact b3, by rw [h2 t (by omega), spr_f (by omega)], fun i hi => ?_⟩
    rw [s1 _ _ (by omega)] at hi
    have := b5 i (by rw [l1 _ _ (by omega)]; exact hi)
    rw [l1 _ _ (by omega)] at this
    rw [h1 _ (by omega), s1 _ _ (by omega)]; exact this
  · rw [n2] at hp
    obtain ⟨b1, b2, b3, b4⟩ := a5 p hp
    rw [l1 _ _ (by omega)] at b1 b2 b3 b4
    exact ⟨by rw [h1 _ (by omega), s1 _ _ (by omega)]; exact b1, by rw [h1 _ (by omega), s1 _ _ (by omega)]; exact b2, by rw [h1 _ (by omega), s1 _ _ (by omega)]; exact b3, by rw [h1 _ (by omega), s1 _ _ (by omega)]; exact b4⟩
  · rw [n3] at hq
    have := a6 q hq
    rw [l1 _ _ (by omega)] at this
    rw [h1 _ (by omega), s1 _ _ (by omega)]; exact this
end
section
/-! ===== best, apart: the figures are laid ===== -/
theorem MH.spr8 {d d' : DD} {H H2 : HH} {base code : Nat} (h : MH 0 d H2) (ok : OKH H) (hl : like H H2 8 (nP H)) (h0 : ∀ a, a ≠ 1 → d' a = d a) (h1 : ∀ j, j < 60 ∨ 60 + nP H ≤ j → d' 1 j = d 1 j) (h2 : ∀ i, i < nP H → d' 1 (60 + i) = nI (fig code base (nP H) i)) : MH 0 d' (spr H 8 base (nP H) code) := by
  obtain ⟨a1, a2, a3, a4, a5, a6⟩ := h
  have o1 := ok.t4; have o2 := ok.p4; have o3 := ok.b6
  have l0 : ∀ j, H2 10 j = H 10 j := fun j => hl 10 j (by omega)
  have l1 : ∀ g j, g ≠ 8 → H2 g j = H g j := fun g j z => hl g j (by omega)
  have s1 : ∀ g j, g ≠ 8 → spr H 8 base (nP H) code g j = H g j := fun g j z => spr_n (by omega)
  have n1 : nT (spr H 8 base (nP H) code) = nT H2 := (s1 10 0 (by omega)).trans (l0 0).symm
  have n1' : nT H2 = nT H := l0 0
  have n2 : nP (spr H 8 base (nP H) code) = nP H2 := (s1 10 1 (by omega)).trans (l0 1).symm
  have n2' : nP H2 = nP H := l0 1
  have n3 : nB (spr H 8 base (nP H) code) = nB H2 := (s1 10 2 (by omega)).trans (l0 2).symm
  have n3' : nB H2 = nB H := l0 2
  refine ⟨by rw [h0 0 (by omega), n1]; exact a1, by rw [h0 0 (by omega), n2]; exact a2, by rw [h0 0 (by omega), n3]; exact a3, fun t ht => ?_, fun p hp => ?_, fun q hq => ?_⟩
  · rw [n1] at ht
    have hn := (ok.tt (t := t) (by omega)).2.2.1
    obtain ⟨b1, b2, b3, b4, b5⟩ := a4 t ht
    rw [l1 _ _ (by omega)] at b1 b2 b3 b4
    refine ⟨by rw [h1 _ (by omega), s1 _ _ (by omega)]; exact b1, by rw [h1 _ (by omega), s1 _ _ (by omega)]; exact b2, by rw [h1 _ (by omega), s1 _ _ (by omega)]; exact b3, by rw [h1 _ (by omega), s1 _ _ (by omega)]; exact b4, fun i hi => ?_⟩
    rw [s1 _ _ (by omega)] at hi
    have := b5 i (by rw [l1 _ _ (by omega)]; exact hi)
    rw [l1 _ _ (by omega)] at this
    rw [h1 _ (by omega), s1 _ _ (by omega)]; exact this
  · rw [n2] at hp
    obtain ⟨b1, b2, b3, b4⟩ := a5 p hp
    rw [l1 _ _ (by omega)] at b1 b2 b3
    exact ⟨by rw [h1 _ (by omega), s1 _ _ (by omega)]; exact b1, by rw [h1 _ (by omega), s1 _ _ (by omega)]; exact b2, by rw [h1 _ (by omega), s1 _ _ (by omega)]; exact b3, by rw [Nat.zero_add, h2 p (by omega), spr_f (by omega)]⟩
  · rw [n3] at hq
    have := a6 q hq
    rw [l1 _ _ (by omega)] at this
    rw [h1 _ (by omega), s1 _ _ (by omega)]; exact this
theorem MH.spr3 {d d' : DD} {H H2 : HH} {base code : Nat} (h : MH 0 d H2) (ok : OKH H) (hl : like H H2 3 (nT H)) (h0 : ∀ a, a ≠ 1 → d' a = d a) (h1 : ∀ j, j < 12 ∨ 12 + nT H ≤ j → d' 1 j = d 1 j) (h2 : ∀ i, i < nT H → d' 1 (12 + i) = nI (fig code base (nT H) i)) : MH 0 d' (spr H 3 base (nT H) code) := by
  obtain ⟨a1, a2, a3, a4, a5, a6⟩ := h
  have o1 := ok.t4; have o2 := ok.p4; have o3 := ok.b6
  have l0 : ∀ j, H2 10 j = H 10 j := fun j => hl 10 j (by omega)
  have l1 : ∀ g j, g ≠ 3 → H2 g j = H g j := fun g j z => hl g j (by omega)
  have s1 : ∀ g j, g ≠ 3 → spr H 3 base (nT H) code g j = H g j := fun g j z => spr_n (by omega)
  have n1 : nT (spr H 3 base (nT H) code) = nT H2 := (s1 10 0 (by omega)).trans (l0 0).symm
  have n1' : nT H2 = nT H := l0 0
  have n2 : nP (spr H 3 base (nT H) code) = nP H2 := (s1 10 1 (by omega)).trans (l0 1).symm
  have n3 : nB (spr H 3 base (nT H) code) = nB H2 := (s1 10 2 (by omega)).trans (l0 2).symm
  refine ⟨by rw [h0 0 (by omega), n1]; exact a1, by rw [h0 0 (by omega), n2]; exact a2, by rw [h0 0 (by omega), n3]; exact a3, fun t ht => ?_, fun p hp => ?_, fun q hq => ?_⟩
  · rw [n1] at ht
    have hn := (ok.tt (t := t) (by omega)).2.2.1
    obtain ⟨b1, b2, b3, b4, b5⟩ := a4 t ht
    rw [l1 _ _ (by omega)] at b1 b2 b3
    refine ⟨by rw [h1 _ (by omega), s1 _ _ (by omega)]; exact b1, by rw [h1 _ (by omega), s1 _ _ (by omega)]; exact b2, by rw [h1 _ (by omega), s1 _ _ (by omega)]; exact b3, by rw [Nat.zero_add, h2 t (by omega), spr_f (by omega)], fun i hi => ?_⟩
    rw [s1 _ _ (by omega)] at hi
    have := b5 i (by rw [l1 _ _ (by omega)]; exact hi)
    rw [l1 _ _ (by omega)] at this
    rw [h1 _ (by omega), s1 _ _ (by omega)]; exact this
  · rw [n2] at hp
    obtain ⟨b1, b2, b3, b4⟩ := a5 p hp
    rw [l1 _ _ (by omega)] at b1 b2 b3 b4
    exact ⟨by rw [h1 _ (by omega), s1 _ _ (by omega)]; exact b1, by rw [h1 _ (by omega), s1 _ _ (by omega)]; exact b2, by rw [h1 _ (by omega), s1 _ _ (by omega)]; exact b3, by rw [h1 _ (by omega), s1 _ _ (by omega)]; exact b4⟩
  · rw [n3] at hq
    have := a6 q hq
    rw [l1 _ _ (by omega)] at this
    rw [h1 _ (by omega), s1 _ _ (by omega)]; exact this
theorem OKH.spr8 {H : HH} (ok : OKH H) (hT : 0 < nT H) (code : Nat) : OKH (spr H 8 (nT H) (nP H) code) := by
  have s1 : ∀ g j, g ≠ 8 → spr H 8 (nT H) (nP H) code g j = H g j := fun g j z => spr_n (by omega)
  have n1 : nT (spr H 8 (nT H) (nP H) code) = nT H := s1 10 0 (by omega)
  have n2 : nP (spr H 8 (nT H) (nP H) code) = nP H := s1 10 1 (by omega)
  have n3 : nB (spr H 8 (nT H) (nP H) code) = nB H := s1 10 2 (by omega)
  obtain ⟨a1, a2, a3, a4, a5, a6⟩ := ok
  refine ⟨by rw [n1]; exact a1, by rw [n2]; exact a2, by rw [n3]; exact a3, fun t ht => ?_, fun p hp => ?_, fun q hq => ?_⟩
  · rw [n1] at ht; exact a4 t ht
  · rw [n2] at hp
    obtain ⟨b0, b1, b2, b3, b4⟩ := a5 p hp
    refine ⟨b0, b1, b2, b3, ?_⟩
    rw [n1, spr_f hp]; exact fig_lt hT
  · rw [n3] at hq; rw [n1]; exact a6 q hq
theorem OKH.spr3 {H : HH} (ok : OKH H) (code : Nat) : OKH (spr H 3 4 (nT H) code) := by
  have s1 : ∀ g j, g ≠ 3 → spr H 3 4 (nT H) code g j = H g j := fun g j z => spr_n (by omega)
  have n1 : nT (spr H 3 4 (nT H) code) = nT H := s1 10 0 (by omega)
  have n2 : nP (spr H 3 4 (nT H) code) = nP H := s1 10 1 (by omega)
  have n3 : nB (spr H 3 4 (nT H) code) = nB H := s1 10 2 (by omega)
  obtain ⟨a1, a2, a3, a4, a5, a6⟩ := ok
  refine ⟨by rw [n1]; exact a1, by rw [n2]; exact a2, by rw [n3]; exact a3, fun t ht => ?_, fun p hp => ?_, fun q hq => ?_⟩
  · rw [n1] at ht
    obtain ⟨b0, b1, b2, b3, b4, b5, b6⟩ := a4 t ht
    refine ⟨b0, b1, b2, b3, b4, ?_, b6⟩
    rw [spr_f ht]
    have := fig_lt (code := code) (many := nT H) (i := t) (show 0 < 4 by decide)
    omega
  · rw [n2] at hp; exact a5 p hp
  · rw [n3] at hq; rw [n1]; exact a6 q hq
theorem costS_le {H : HH} {P : PL} (ok : OKH H) (hI : Pinv H 160 P) : costS H P ≤ 3564 := by
  have o4 := ok.p4
  have : costS H P ≤ nP H * (99 * 9) := sumN_le (fun i hi => by
    have a := (ok.pp hi)
    have b := hI.2.2.2 i hi
    exact Nat.mul_le_mul (by have := a.2.2.1; omega) a.2.2.2.1)
  omega
def besA (H : HH) (c : Nat) : Nat := awayS (spr H 8 (nT H) (nP H) c) (playS (spr H 8 (nT H) (nP H) c) 0)
def besC (H : HH) (c : Nat) : Nat := costS (spr H 8 (nT H) (nP H) c) (playS (spr H 8 (nT H) (nP H) c) 0)
/-- code, away, cost -/
def besS (H : HH) : Nat → Nat × Nat × Nat := itr (fun c s => if besA H c < s.2.1 ∨ (besA H c = s.2.1 ∧ besC H c < s.2.2) then (c, besA H c, besC H c) else s) (0, 1000000, 1000000)
theorem besS_s (H : HH) (k : Nat) : besS H (k + 1) = if besA H k < (besS H k).2.1 ∨ (besA H k = (besS H k).2.1 ∧ besC H k < (besS H k).2.2) then (k, besA H k, besC H k) else besS H k := rfl
theorem besA_le {H : HH} (ok : OKH H) (hT : 0 < nT H) (c : Nat) : besA H c ≤ 6 := awayS_le (ok.spr8 hT c)
theorem besC_le {H : HH} (ok : OKH H) (hT : 0 < nT H) (c : Nat) : besC H c ≤ 3564 := costS_le (ok.spr8 hT c) (play_inv (ok.spr8 hT c))
theorem besS_le {H : HH} (ok : OKH H) (hT : 0 < nT H) : ∀ k, (besS H k).1 ≤ k ∧ (besS H k).2.1 ≤ 1000000 ∧ (besS H k).2.2 ≤ 1000000 ∧ (k ≠ 0 → (besS H k).2.1 ≤ 6) := by
  intro k
  induction k with
  | zero => exact ⟨Nat.le_refl _, Nat.le_refl _, Nat.le_refl _, fun z => absurd rfl z⟩
  | succ k ih =>
    have h1 := besA_le ok hT k
    have h2 := besC_le ok hT k
    rw [besS_s]
    split
    · exact ⟨Nat.le_succ k, Nat.le_trans h1 (by omega), Nat.le_trans h2 (by omega), fun _ => h1⟩
    · rename_i z
      obtain ⟨i1, i2, i3, i4⟩ := ih
      refine ⟨Nat.le_succ_of_le i1, i2, i3, fun _ => ?_⟩
      by_cases y : k = 0
      · subst y
        exact absurd (Or.inl (show besA H 0 < 1000000 by omega)) z
      · exact i4 y
/-- w: 0, 1, or 10 and a player -/
def besV (H : HH) (w : Nat) : Int32 := if w = 0 then nI (besS H (nT H ^ nP H)).2.1 else if w = 1 then nI (besS H (nT H ^ nP H)).2.2 else nI (fig (besS H (nT H ^ nP H)).1 (nT H) (nP H) (w - 10))
def x1 (k v : Nat) : Int32 := if k = 0 then 1000000 else nI v
theorem codes_le {a b : Nat} (ha : a ≤ 4) (hb : b ≤ 4) (h0 : 0 < a) : 0 < a ^ b ∧ a ^ b ≤ 256 := by
  refine ⟨Nat.pow_pos h0, ?_⟩
  calc a ^ b ≤ 4 ^ b := Nat.pow_le_pow_left ha b
    _ ≤ 4 ^ 4 := Nat.pow_le_pow_right (by decide) hb
    _ = 256 := by decide
end
section
/-! ===== best ===== -/
theorem x1_lt {k v A : Nat} (hA : A ≤ 6) (hv : v ≤ 1000000) (h0 : k = 0 → v = 1000000) : nI A < x1 k v ↔ A < v := by
  unfold x1
  by_cases z : k = 0
  · rw [if_pos z, h0 z]
    have : nI A < (1000000 : Int32) := by rw [li_1000000]; exact (nI_ltI (by omega) (by omega)).mpr (by omega)
    exact ⟨fun _ => (by omega), fun _ => this⟩
  · rw [if_neg z]; exact nI_ltI (by omega) (by omega)
theorem X_best_98 {q : Int32 → DD → Prop} {x d : DD} {H : HH} {w f : Nat} (hX : XH 1 x H) (ok : OKH H) (hT : 0 < nT H) (hw : (w < 2 ∧ f = 0) ∨ (f = 1 ∧ ∃ p, p < nP H ∧ w = 10 + p)) (hk0 : XK x d) (h23 : XH 23 d H) (h : ∀ d', XK x d' → q (besV H w) d') : Ev SX MX4_best 98 [.ref 0, .int (nI w), .int (nI f), .int (nI (nT H ^ nP H)), .int (nI 0), .int 1000000, .int 1000000, .int (nI 0), uJ, uJ] [] d (rI q) := by
  have o4 := ok.p4
  have t4 := ok.t4
  have iH : isH 23 := by unfold isH; omega
  have hcs := codes_le (b := nP H) t4 o4 hT
  have hW : w < 14 := by rcases hw with ⟨a, _⟩ | ⟨_, p, a, b⟩ <;> omega
  refine for_up (W := fun k d' => Ev SX MX4_best 98 [.ref 0, .int (nI w), .int (nI f), .int (nI (nT H ^ nP H)), .int (nI (besS H k).1), .int (x1 k (besS H k).2.1), .int (x1 k (besS H k).2.2), .int (nI k), uJ, uJ] [] d' (rI q)) (I := fun _ d' => XK x d' ∧ ∃ H2, XH 23 d' H2 ∧ like H H2 8 (nP H)) (nT H ^ nP H) ?_ ?_ 0 d (Nat.zero_le _) ⟨hk0, H, h23, fun _ _ _ => rfl⟩
  · rintro d' ⟨g1, H2, g2, g3⟩
    have hX' := hX.xk g1
    have hle := besS_le ok hT (nT H ^ nP H)
    refine bk_X4_best_98 (br_t (nI_le (Nat.le_refl _) (by omega)) ?_)
    rw [hX'.nt, hX'.np]
    rcases hw with ⟨a, b⟩ | ⟨a, p, hp, b⟩
    · subst b
      refine rr_t rfl ?_
      have h := h d' g1
      unfold besV at h
      rcases (show w = 0 ∨ w = 1 by omega) with rfl | rfl
      · refine rr_t rfl ?_
        unfold x1; rw [if_neg (by omega)]; exact h
      · refine rr_f (by decide) ?_
        unfold x1; rw [if_neg (by omega)]; exact h
    · subst a b
      refine rr_f (by decide) (X_spread (c := 32) rfl (by omega) o4 hT (by omega) (by omega) fun d3 e1 e2 e3 => ⟨?_, ?_⟩)
      · rw [li_10, pk_sub (by omega)]; exact vp_in_nI (by omega) (by omega)
      · have h := h d3 (fun a ha => by rw [e1 a (by omega)]; exact g1 a ha)
        unfold besV at h
        rw [if_neg (by omega), if_neg (by omega)] at h
        rw [li_10, pk_sub (by omega), nI_clamp (by omega), e2 _ (by omega)]; exact h
  · rintro k d' hk ⟨g1, H2, g2, g3⟩ ih
    have hX' := hX.xk g1
    have hle := besS_le ok hT k
    have hA := besA_le ok hT k
    have hC := besC_le ok hT k
    have okS := ok.spr8 hT k
    refine bk_X4_best_98 (br_f (fun c => absurd ((nI_leI (by omega) (by omega)).mp c) (by omega)) ?_)
    rw [hX'.nt, hX'.np]
    refine X_spread (c := 32) rfl (by omega) o4 hT (by omega) (by omega) fun d3 e1 e2 e3 => ?_
    have s23 : XH 23 d3 (spr H 8 (nT H) (nP H) k) := g2.spr8 g3 e1 e2
    have k3 : XK x d3 := fun a ha => by rw [e1 a (by omega)]; exact g1 a ha
    refine X_run (sil := 0) iH s23 okS (by omega) fun d4 f4 e4 => ?_
    have s23' : XH 23 d4 (spr H 8 (nT H) (nP H) k) := s23.kept (fun a _ _ => f4 a (by omega))
    refine X_away iH s23' okS (play_inv okS) e4 (X_cost iH s23' okS e4 ?_)
    have := ih d4 ⟨k3.tr f4.k, _, s23', spr_like⟩
    rw [besS_s] at this
    have ex : ∀ v, x1 (k + 1) v = nI v := fun v => if_neg (by omega)
    rw [ex, ex] at this
    rw [nI_1]
    have c1 := x1_lt (k := k) (v := (besS H k).2.1) hA hle.2.1 (fun z => by subst z; rfl)
    by_cases z1 : besA H k < (besS H k).2.1
    · rw [if_pos (Or.inl z1)] at this
      exact br_t (c1.mpr z1) this
    · have kn : k ≠ 0 := fun z => by subst z; exact z1 (show besA H 0 < 1000000 by omega)
      have ex' : ∀ v, x1 k v = nI v := fun v => if_neg kn
      refine br_f (mt c1.mp z1) ?_
      rw [ex', ex']
      by_cases z2 : besA H k = (besS H k).2.1
      · refine rr_t (show nI (besA H k) = _ by rw [z2]) ?_
        by_cases z3 : besC H k < (besS H k).2.2
        · rw [if_pos (Or.inr ⟨z2, z3⟩)] at this
          exact br_f (fun c => absurd ((nI_leI (by omega) (show besC H k < 2 ^ 31 by omega)).mp c) (by omega)) this
        · rw [if_neg (fun y => by rcases y with y | y <;> omega)] at this
          exact br_t ((nI_leI (by omega) (show besC H k < 2 ^ 31 by omega)).mpr (by omega)) this
      · rw [if_neg (fun y => by rcases y with y | y <;> omega)] at this
        exact rr_f (fun c => z2 (nI_inj (show besA H k < 2 ^ 31 by omega) (by omega) c)) this
/-- the page is kept at 280 -/
def MB (m d : DD) : Prop := MK2 m d ∧ ∀ i, i < 70 → d 1 (280 + i) = m 1 i
theorem MB.mf {m d d' : DD} (h : MB m d) (f : MF d d') : MB m d' := by
  obtain ⟨⟨a1, a2, a3⟩, a4⟩ := h
  exact ⟨⟨fun j hj => by rw [f 0 (by omega)]; exact a1 j hj, fun j h1 h2 => by rw [f 1 (by omega)]; exact a2 j h1 h2, fun a ha => by rw [f a (by omega)]; exact a3 a ha⟩, fun i hi => by rw [f 1 (by omega)]; exact a4 i hi⟩
theorem MB.row {m d d' : DD} (h : MB m d) (f : ∀ a, a ≠ 1 → d' a = d a) (f1 : ∀ j, 70 ≤ j → d' 1 j = d 1 j) : MB m d' := by
  obtain ⟨⟨a1, a2, a3⟩, a4⟩ := h
  exact ⟨⟨fun j hj => by rw [f 0 (by omega)]; exact a1 j hj, fun j h1 h2 => by rw [f1 j (by omega)]; exact a2 j h1 h2, fun a ha => by rw [f a (by omega)]; exact a3 a ha⟩, fun i hi => by rw [f1 _ (by omega)]; exact a4 i hi⟩
theorem MB.fin {m d d' : DD} (h : MB m d) (f : ∀ a, a ≠ 1 → d' a = d a) (f1 : ∀ j, j < 0 ∨ 0 + 70 ≤ j → d' 1 j = d 1 j) (f2 : ∀ i, i < 70 → d' 1 (0 + i) = d 1 (280 + i)) : MK m d' := by
  obtain ⟨⟨a1, a2, a3⟩, a4⟩ := h
  refine ⟨fun j hj => by rw [f 0 (by omega)]; exact a1 j hj, fun j hj => ?_, fun a ha => by rw [f a (by omega)]; exact a3 a ha⟩
  rcases Nat.lt_or_ge j 70 with z | z
  · have := f2 j z
    rw [Nat.zero_add] at this
    rw [this]; exact a4 j z
  · rw [f1 j (by omega)]; exact a2 j z hj
theorem MB.beg {m d d' : DD} (h : MK m d) (f : ∀ a, a ≠ 1 → d' a = d a) (f1 : ∀ j, j < 280 ∨ 280 + 70 ≤ j → d' 1 j = d 1 j) (f2 : ∀ i, i < 70 → d' 1 (280 + i) = d 1 (0 + i)) : MB m d' := by
  obtain ⟨a1, a2, a3⟩ := h
  exact ⟨⟨fun j hj => by rw [f 0 (by omega)]; exact a1 j hj, fun j h1 h2 => by rw [f1 j (by omega)]; exact a2 j h2, fun a ha => by rw [f a (by omega)]; exact a3 a ha⟩, fun i hi => by rw [f2 i hi, Nat.zero_add]; exact a2 i (by omega)⟩
theorem MB.sil {m d : DD} (h : MB m d) : d 0 26 = m 0 26 := h.1.1 26 (by omega)
end
section
theorem M_best_61 {q : Int32 → DD → Prop} {m d : DD} {H : HH} {w : Nat} (ok : OKH H) (hs : m 0 26 = nI 0) (hT : 0 < nT H) (hw : w < 2 ∨ ∃ p, p < nP H ∧ w = 10 + p) (hk0 : MB m d) (hM0 : MH 0 d H) (h : ∀ d', MK m d' → q (besV H w) d') : Ev SM MX5_best 61 [.ref 0, .int (nI w), .int 1000000, .int 1000000, .int (nI 0), .int (nI 0), uJ, uJ] [] d (rI q) := by
  have o4 := ok.p4
  have t4 := ok.t4
  have hcs := codes_le (b := nP H) t4 o4 hT
  have hW : w < 14 := by rcases hw with a | ⟨p, a, b⟩ <;> omega
  refine for_up (W := fun k d' => Ev SM MX5_best 61 [.ref 0, .int (nI w), .int (nI (besS H k).2.1), .int (nI (besS H k).2.2), .int (nI (besS H k).1), .int (nI k), uJ, uJ] [] d' (rI q)) (I := fun _ d' => MB m d' ∧ ∃ H2, MH 0 d' H2 ∧ like H H2 8 (nP H)) (nT H ^ nP H) ?_ ?_ 0 d (Nat.zero_le _) ⟨hk0, H, hM0, fun _ _ _ => rfl⟩
  · rintro d' ⟨g1, H2, g2, g3⟩
    have hle := besS_le ok hT (nT H ^ nP H)
    have e0 : d' 0 1 = nI (nT H) := g2.nt.trans (congrArg nI (g3 10 0 (by omega)))
    have e1 : d' 0 2 = nI (nP H) := g2.np.trans (congrArg nI (g3 10 1 (by omega)))
    refine bk_X5_best_61 ?_
    rw [e0, e1]
    refine M_powerOf (by omega) (br_t (nI_le (Nat.le_refl _) (by omega)) ?_)
    rw [e0, e1]
    refine M_lays (o := 60) (by omega) (by omega) hT (by omega) (by omega) fun d3 f1 f2 f3 => ?_
    have b3 : MB m d3 := g1.row f1 (fun j hj => f3 j (by omega))
    rcases hw with a | ⟨p, hp, b⟩
    · rcases (show w = 0 ∨ w = 1 by omega) with rfl | rfl
      · exact rr_t rfl (M_copies (f := 280) (t := 0) (by omega) (by omega) (by omega) fun d4 u1 u2 u3 => h d4 (b3.fin u1 u2 u3))
      · exact rr_f (by decide) (rr_t rfl (M_copies (f := 280) (t := 0) (by omega) (by omega) (by omega) fun d4 u1 u2 u3 => h d4 (b3.fin u1 u2 u3)))
    · subst b
      refine rr_f (fun z => absurd (nI_inj (b := 0) (by omega) (by omega) z) (by omega)) (rr_f (fun z => absurd (nI_inj (b := 1) (by omega) (by omega) z) (by omega)) ?_)
      rw [show (60 : Int32) + nI (10 + p) - 10 = nI (60 + p) from by rw [li_60, li_10, nI_add, pk_sub (by omega), show 60 + (10 + p) - 10 = 60 + p by omega]]
      refine ⟨vp_in_nI (by omega) (by omega), nm_e (M_copies (f := 280) (t := 0) (by omega) (by omega) (by omega) fun d4 u1 u2 u3 => ?_)⟩
      have h := h d4 (b3.fin u1 u2 u3)
      unfold besV at h
      rw [if_neg (by omega), if_neg (by omega), show 10 + p - 10 = p by omega] at h
      rw [nI_clamp (by omega), f2 p hp]; exact h
  · rintro k d' hk ⟨g1, H2, g2, g3⟩ ih
    have hle := besS_le ok hT k
    have hA := besA_le ok hT k
    have hC := besC_le ok hT k
    have okS := ok.spr8 hT k
    have e0 : d' 0 1 = nI (nT H) := g2.nt.trans (congrArg nI (g3 10 0 (by omega)))
    have e1 : d' 0 2 = nI (nP H) := g2.np.trans (congrArg nI (g3 10 1 (by omega)))
    refine bk_X5_best_61 ?_
    rw [e0, e1]
    refine M_powerOf (by omega) (br_f (fun c => absurd ((nI_leI (by omega) (by omega)).mp c) (by omega)) ?_)
    rw [e0, e1]
    refine M_lays (o := 60) (by omega) (by omega) hT (by omega) (by omega) fun d3 f1 f2 f3 => ?_
    have b3 : MB m d3 := g1.row f1 (fun j hj => f3 j (by omega))
    have s3 : MH 0 d3 (spr H 8 (nT H) (nP H) k) := g2.spr8 ok g3 f1 f3 f2
    refine M_awayMany (sil := 0) s3 okS (by rw [b3.sil]; exact hs) (by omega) fun d4 v1 v2 => ?_
    have b4 := b3.mf v1
    have s4 := s3.mf okS v1
    have := ih d4 ⟨b4, _, s4, spr_like⟩
    rw [besS_s] at this
    have fin1 : Ev SM MX5_best 61 [.ref 0, .int (nI w), .int (nI (besA H k)), .int (nI (besC H k)), .int (nI k), .int (nI (k + 1)), uJ, uJ] [] d4 (rI q) → Ev SM MX5_best 138 [.ref 0, .int (nI w), .int (nI (besS H k).2.1), .int (nI (besS H k).2.2), .int (nI (besS H k).1), .int (nI k), .int (nI (besA H k)), .int 1] [.int (nI k)] d4 (rI q) := fun t => bk_X5_best_138 (br_f (by decide) (M_cost s4 okS v2 (br_f (by decide) (by rw [nI_1]; exact t))))
    have fin0 : Ev SM MX5_best 61 [.ref 0, .int (nI w), .int (nI (besS H k).2.1), .int (nI (besS H k).2.2), .int (nI (besS H k).1), .int (nI (k + 1)), uJ, uJ] [] d4 (rI q) → Ev SM MX5_best 138 [.ref 0, .int (nI w), .int (nI (besS H k).2.1), .int (nI (besS H k).2.2), .int (nI (besS H k).1), .int (nI k), .int (nI (besA H k)), .int 0] [.int (nI (besS H k).1)] d4 (rI q) := fun t => bk_X5_best_138 (br_t rfl (br_t rfl (by rw [nI_1]; exact t)))
    have c1 : nI (besA H k) < nI (besS H k).2.1 ↔ besA H k < (besS H k).2.1 := nI_ltI (by omega) (by omega)
    by_cases z1 : besA H k < (besS H k).2.1
    · rw [if_pos (Or.inl z1)] at this
      exact br_t (c1.mpr z1) (fin1 this)
    · refine br_f (mt c1.mp z1) ?_
      by_cases z2 : besA H k = (besS H k).2.1
      · refine rr_t (show nI (besA H k) = _ by rw [z2]) (M_cost s4 okS v2 ?_)
        by_cases z3 : besC H k < (besS H k).2.2
        · rw [if_pos (Or.inr ⟨z2, z3⟩)] at this
          exact br_f (fun c => absurd ((nI_leI (by omega) (show besC H k < 2 ^ 31 by omega)).mp c) (by omega)) (fin1 this)
        · rw [if_neg (fun y => by rcases y with y | y <;> omega)] at this
          exact br_t ((nI_leI (by omega) (show besC H k < 2 ^ 31 by omega)).mpr (by omega)) (fin0 this)
      · rw [if_neg (fun y => by rcases y with y | y <;> omega)] at this
        exact rr_f (fun c => z2 (nI_inj (show besA H k < 2 ^ 31 by omega) (by omega) c)) (fin0 this)
/-- 10 .. 9 + k -/
theorem M_i10_y {q : Int32 → DD → Prop} {d : DD} {n k : Nat} (hk : k ≤ 100) (h1 : 10 ≤ n) (h2 : n < 10 + k) (h : q 1 d) : Cn SM MX5_in [.long (nI n).toInt64, .long 10, .long (9 + nI k).toInt64] d (rI q) := by
  refine M_inL (fun _ _ => h) (fun z => absurd ?_ z)
  rw [li_9, nI_add, Int32.toInt_toInt64, Int32.toInt_toInt64, nI_toInt (by omega), nI_toInt (by omega), show ((10 : Int64)).toInt = 10 from rfl]
  omega
theorem M_i10_n {q : Int32 → DD → Prop} {d : DD} {v : Int32} {k : Nat} (hk : k ≤ 100) (hz : ∀ j, j < k → v ≠ nI (10 + j)) (h : q 0 d) : Cn SM MX5_in [.long v.toInt64, .long 10, .long (9 + nI k).toInt64] d (rI q) := by
  refine M_inL (fun a b => ?_) (fun _ => h)
  rw [Int32.toInt_toInt64] at a
  rw [li_9, nI_add, Int32.toInt_toInt64, Int32.toInt_toInt64, nI_toInt (by omega)] at b
  rw [show ((10 : Int64)).toInt = 10 from rfl] at a
  obtain ⟨j, hj, rfl⟩ := nI_of (x := v) (fun c => by have := i_lt.mp c; rw [show ((0 : Int32)).toInt = 0 from rfl] at this; omega)
  rw [nI_toInt hj] at a b
  exact absurd (by rw [show 10 + (j - 10) = j by omega]) (hz (j - 10) (by omega))
/-- what is asked: 0, 1, 10 and more, or nothing -/
theorem ten_or {v : Int32} {k : Nat} (hk : k ≤ 100) : (∃ p, p < k ∧ v = nI (10 + p)) ∨ ((∀ j, j < k → v ≠ nI (10 + j)) ∧ (v < 10 ∨ (¬ v < 10 ∧ ∀ j, j < k → v - 10 ≠ nI j))) := by
  by_cases c : ∃ p, p < k ∧ v = nI (10 + p)
  · exact Or.inl c
  · have c' : ∀ j, j < k → v ≠ nI (10 + j) := fun j hj e => c ⟨j, hj, e⟩
    refine Or.inr ⟨c', ?_⟩
    by_cases z : v < 10
    · exact Or.inl z
    · refine Or.inr ⟨z, fun j hj e => ?_⟩
      obtain ⟨n, hn, rfl⟩ := nI_of (x := v) (fun y => z (by have := i_lt.mp y; exact i_lt.mpr (by rw [show ((10 : Int32)).toInt = 10 from rfl]; rw [show ((0 : Int32)).toInt = 0 from rfl] at this; omega)))
      rw [li_10] at z e
      have z : 10 ≤ n := by
        rcases Nat.lt_or_ge n 10 with y | y
        · exact absurd ((nI_ltI (by omega) (by omega)).mpr y) z
        · exact y
      rw [pk_sub z] at e
      have := nI_inj (by omega) (by omega) e
      exact c' j hj (by rw [show 10 + j = n by omega])
theorem two_best {x m : DD} {H : HH} {p0 : Int32} (hR : RelH H x m) : Two MX4_best MX5_best [.ref 0, .int p0] x m := by
  obtain ⟨ok, hX, hM, hO⟩ := id hR
  have o4 := ok.p4
  have t4 := ok.t4
  have iH : isH 23 := by unfold isH; omega
  have xs : ∀ {w f : Nat} {q : Int32 → DD → Prop} {p0 : Int32}, ((w < 2 ∧ f = 0) ∨ (f = 1 ∧ ∃ p, p < nP H ∧ w = 10 + p)) → p0 = nI w → (0 < nT H → ∀ d', XK x d' → q (besV H w) d') → (nT H = 0 → q (-2) x) → Ev SX MX4_best 41 [.ref 0, .int p0, .int (nI f), uJ, uJ, uJ, uJ, uJ, uJ, uJ] [] x (rI q) := by
    intro w f q p0 hw e h1 h2
    subst e
    refine bk_X4_best_41 ?_
    rw [hX.nt]
    rcases Nat.eq_zero_or_pos (nT H) with z | z
    · exact br_f (by rw [z]; decide) (h2 z)
    · refine br_t (by rw [li_1]; exact (nI_leI (by omega) (by omega)).mpr z) (X_becomeH iH isH1 (by omega) hX ok fun d2 g1 g2 => ?_)
      rw [(hX.kept (fun a _ _ => g1 a (by omega))).nt, (hX.kept (fun a _ _ => g1 a (by omega))).np]
      exact X_power (by omega) (X_best_98 hX ok z hw (fun a ha => g1 a (by omega)) g2 (h1 z))
  have ms : ∀ {w : Nat} {q : Int32 → DD → Prop} {p0 : Int32}, (w < 2 ∨ ∃ p, p < nP H ∧ w = 10 + p) → p0 = nI w → (0 < nT H → ∀ d', MK m d' → q (besV H w) d') → (nT H = 0 → q (-2) m) → Ev SM MX5_best 31 [.ref 0, .int p0, uJ, uJ, uJ, uJ, uJ, uJ] [] m (rI q) := by
    intro w q p0 hw e h1 h2
    subst e
    refine bk_X5_best_31 ?_
    rw [hM.nt]
    rcases Nat.eq_zero_or_pos (nT H) with z | z
    · exact rr_t (by rw [z]; rfl) (h2 z)
    · exact rr_f (fun y => absurd (nI_inj (b := 0) (by omega) (by omega) y) (by omega)) (M_copies (f := 0) (t := 280) (by omega) (by omega) (by omega) fun d2 g1 g2 g3 => M_best_61 ok hO.sil z hw (MB.beg MK.rf g1 g2 g3) (hM.kept (fun j _ _ => by rw [g1 0 (by omega)]) (fun j _ _ => g2 j (by omega)) ok) (h1 z))
  rcases ge_of (n := 2) (v := p0) (by omega) with ⟨w, hw, e⟩ | hz
  · have p10 : p0 < 10 := by rw [e, li_10]; exact (nI_ltI (by omega) (by omega)).mpr (by omega)
    have hx : ∀ {q : Int32 → DD → Prop}, Ev SX MX4_best 41 [.ref 0, .int p0, .int (nI 0), uJ, uJ, uJ, uJ, uJ, uJ, uJ] [] x (rI q) → Cn SX MX4_best [.ref 0, .int p0] x (rI q) := fun t => cn_X4_best (br_t p10 (bk_X4_best_25 (by rw [e] at t ⊢; exact X_win_y (n := 1) (by omega) (by omega) (y1 t))))
    have hm : ∀ {q : Int32 → DD → Prop}, Ev SM MX5_best 31 [.ref 0, .int p0, uJ, uJ, uJ, uJ, uJ, uJ] [] m (rI q) → Cn SM MX5_best [.ref 0, .int p0] m (rI q) := fun t => cn_X5_best (by rw [e] at t ⊢; exact M_win_y (n := 1) (by omega) (by omega) (y1 t))
    rcases Nat.eq_zero_or_pos (nT H) with z | z
    · exact two_ask hR (-2) (hx (xs (Or.inl ⟨hw, rfl⟩) e (fun y => absurd y (by omega)) (fun _ => ⟨rfl, XK.rf⟩))) (hm (ms (Or.inl hw) e (fun y => absurd y (by omega)) (fun _ => ⟨rfl, MK.rf⟩)))
    · exact two_ask hR (besV H w) (hx (xs (Or.inl ⟨hw, rfl⟩) e (fun _ d' g => ⟨rfl, g⟩) (fun y => absurd y (by omega)))) (hm (ms (Or.inl hw) e (fun _ d' g => ⟨rfl, g⟩) (fun y => absurd y (by omega))))
  · rcases ten_or (v := p0) (k := nP H) (by omega) with ⟨p, hp, e⟩ | ⟨hz2, hz3⟩
    · have p10 : ¬ p0 < 10 := by rw [e, li_10]; exact fun c => absurd ((nI_ltI (by omega) (by omega)).mp c) (by omega)
      have e10 : p0 - 10 = nI p := by rw [e, li_10, pk_sub (by omega), show 10 + p - 10 = p by omega]
      have hx : ∀ {q : Int32 → DD → Prop}, Ev SX MX4_best 41 [.ref 0, .int p0, .int (nI 1), uJ, uJ, uJ, uJ, uJ, uJ, uJ] [] x (rI q) → Cn SX MX4_best [.ref 0, .int p0] x (rI q) := fun t => cn_X4_best (br_f p10 (by rw [e10]; exact X_hasPlayer_y isH1 hX ok hp (y1' (bk_X4_best_25 (X_win_n (n := 1) (by omega) hz (y0 (rr_f (by decide) t)))))))
      have hm : ∀ {q : Int32 → DD → Prop}, Ev SM MX5_best 31 [.ref 0, .int p0, uJ, uJ, uJ, uJ, uJ, uJ] [] m (rI q) → Cn SM MX5_best [.ref 0, .int p0] m (rI q) := fun t => cn_X5_best (M_win_n (n := 1) (by omega) hz (y0 (by rw [hM.np]; rw [e] at t ⊢; exact M_i10_y (by omega) (by omega) (by omega) (y1 t))))
      rcases Nat.eq_zero_or_pos (nT H) with z | z
      · exact two_ask hR (-2) (hx (xs (Or.inr ⟨rfl, p, hp, rfl⟩) e (fun y => absurd y (by omega)) (fun _ => ⟨rfl, XK.rf⟩))) (hm (ms (Or.inr ⟨p, hp, rfl⟩) e (fun y => absurd y (by omega)) (fun _ => ⟨rfl, MK.rf⟩)))
      · exact two_ask hR (besV H (10 + p)) (hx (xs (Or.inr ⟨rfl, p, hp, rfl⟩) e (fun _ d' g => ⟨rfl, g⟩) (fun y => absurd y (by omega)))) (hm (ms (Or.inr ⟨p, hp, rfl⟩) e (fun _ d' g => ⟨rfl, g⟩) (fun y => absurd y (by omega))))
    · have hx : Ev SX MX4_best 25 [.ref 0, .int p0, uJ, uJ, uJ, uJ, uJ, uJ, uJ, uJ] [.int 0] x (rI fun r' d => r' = -1 ∧ XK x d) := bk_X4_best_25 (X_win_n (n := 1) (by omega) hz (y0 (rr_t rfl ⟨rfl, XK.rf⟩)))
      refine two_ask hR (-1) (cn_X4_best ?_) (cn_X5_best (M_win_n (n := 1) (by omega) hz (y0 ?_)))
      · rcases hz3 with y | ⟨y, y2⟩
        · exact br_t y hx
        · exact br_f y (X_hasPlayer_n isH1 hX ok y2 (y0' hx))
      · rw [hM.np]; exact M_i10_n (by omega) hz2 (y0 ⟨rfl, MK.rf⟩)
end
section
/-! ===== apart ===== -/
def apaA (H : HH) (c : Nat) : Nat := awayS (spr H 3 4 (nT H) c) (playS (spr H 3 4 (nT H) c) 0)
def apaS (H : HH) : Nat → Nat × Nat := itr (fun c s => if apaA H c < s.2 then (c, apaA H c) else s) (0, 1000000)
theorem apaS_s (H : HH) (k : Nat) : apaS H (k + 1) = if apaA H k < (apaS H k).2 then (k, apaA H k) else apaS H k := rfl
theorem apaA_le {H : HH} (ok : OKH H) (c : Nat) : apaA H c ≤ 6 := awayS_le (ok.spr3 c)
theorem apaS_le {H : HH} (ok : OKH H) : ∀ k, (apaS H k).1 ≤ k ∧ (apaS H k).2 ≤ 1000000 := by
  intro k
  induction k with
  | zero => exact ⟨Nat.le_refl _, Nat.le_refl _⟩
  | succ k ih =>
    have h1 := apaA_le ok k
    rw [apaS_s]
    split
    · exact ⟨Nat.le_succ k, Nat.le_trans h1 (by omega)⟩
    · exact ⟨Nat.le_succ_of_le ih.1, ih.2⟩
def apaV (H : HH) (w : Nat) : Int32 := if w = 0 then nI (apaS H (4 ^ nT H)).2 else nI (fig (apaS H (4 ^ nT H)).1 4 (nT H) (w - 10))
theorem X_apart_83 {q : Int32 → DD → Prop} {x d : DD} {H : HH} {w f : Nat} (hX : XH 1 x H) (ok : OKH H) (hw : (w = 0 ∧ f = 0) ∨ (f = 1 ∧ ∃ p, p < nT H ∧ w = 10 + p)) (hk0 : XK x d) (h23 : XH 23 d H) (h : ∀ d', XK x d' → q (apaV H w) d') : Ev SX MX4_apart 83 [.ref 0, .int (nI w), .int (nI f), .int (nI (4 ^ nT H)), .int (nI 0), .int 1000000, .int (nI 0), uJ] [] d (rI q) := by
  have t4 := ok.t4
  have iH : isH 23 := by unfold isH; omega
  have hcs := codes_le (a := 4) (b := nT H) (Nat.le_refl _) t4 (by omega)
  refine for_up (W := fun k d' => Ev SX MX4_apart 83 [.ref 0, .int (nI w), .int (nI f), .int (nI (4 ^ nT H)), .int (nI (apaS H k).1), .int (x1 k (apaS H k).2), .int (nI k), uJ] [] d' (rI q)) (I := fun _ d' => XK x d' ∧ ∃ H2, XH 23 d' H2 ∧ like H H2 3 (nT H)) (4 ^ nT H) ?_ ?_ 0 d (Nat.zero_le _) ⟨hk0, H, h23, fun _ _ _ => rfl⟩
  · rintro d' ⟨g1, H2, g2, g3⟩
    have hX' := hX.xk g1
    have hle := apaS_le ok (4 ^ nT H)
    refine bk_X4_apart_83 (br_t (nI_le (Nat.le_refl _) (by omega)) ?_)
    rw [hX'.nt]
    rcases hw with ⟨a, b⟩ | ⟨a, p, hp, b⟩
    · subst a b
      have h := h d' g1
      unfold apaV at h
      refine rr_t rfl ?_
      unfold x1; rw [if_neg (by omega)]; exact h
    · subst a b
      refine rr_f (by decide) (X_spread (c := 27) (base := 4) rfl (by omega) t4 (by omega) (by omega) (by omega) fun d3 e1 e2 e3 => ⟨?_, ?_⟩)
      · rw [li_10, pk_sub (by omega)]; exact vp_in_nI (by omega) (by omega)
      · have h := h d3 (fun a ha => by rw [e1 a (by omega)]; exact g1 a ha)
        unfold apaV at h
        rw [if_neg (by omega)] at h
        rw [li_10, pk_sub (by omega), nI_clamp (by omega), e2 _ (by omega)]; exact h
  · rintro k d' hk ⟨g1, H2, g2, g3⟩ ih
    have hX' := hX.xk g1
    have hle := apaS_le ok k
    have hA := apaA_le ok k
    have okS := ok.spr3 k
    refine bk_X4_apart_83 (br_f (fun c => absurd ((nI_leI (by omega) (by omega)).mp c) (by omega)) ?_)
    rw [hX'.nt]
    refine X_spread (c := 27) (base := 4) rfl (by omega) t4 (by omega) (by omega) (by omega) fun d3 e1 e2 e3 => ?_
    have s23 : XH 23 d3 (spr H 3 4 (nT H) k) := g2.spr3 g3 e1 e2
    have k3 : XK x d3 := fun a ha => by rw [e1 a (by omega)]; exact g1 a ha
    refine X_run (sil := 0) iH s23 okS (by omega) fun d4 f4 e4 => ?_
    have s23' : XH 23 d4 (spr H 3 4 (nT H) k) := s23.kept (fun a _ _ => f4 a (by omega))
    refine X_away iH s23' okS (play_inv okS) e4 ?_
    have := ih d4 ⟨k3.tr f4.k, _, s23', spr_like⟩
    rw [apaS_s] at this
    have ex : ∀ v, x1 (k + 1) v = nI v := fun v => if_neg (by omega)
    rw [ex] at this
    rw [nI_1]
    have c1 := x1_lt (k := k) (v := (apaS H k).2) hA hle.2 (fun z => by subst z; rfl)
    have c2 : x1 k (apaS H k).2 ≤ nI (apaA H k) ↔ ¬ apaA H k < (apaS H k).2 := by
      rw [← c1, i_lt, i_le]; omega
    by_cases z1 : apaA H k < (apaS H k).2
    · rw [if_pos z1] at this
      exact br_f (fun c => c2.mp c z1) this
    · have kn : k ≠ 0 := fun z => by subst z; exact z1 (show apaA H 0 < 1000000 by omega)
      rw [if_neg z1] at this
      have ex' : x1 k (apaS H k).2 = nI (apaS H k).2 := if_neg kn
      refine br_t (c2.mpr z1) ?_
      rw [ex']; exact this
theorem M_apart_51 {q : Int32 → DD → Prop} {m d : DD} {H : HH} {w : Nat} (ok : OKH H) (hs : m 0 26 = nI 0) (hw : w = 0 ∨ ∃ p, p < nT H ∧ w = 10 + p) (hk0 : MB m d) (hM0 : MH 0 d H) (h : ∀ d', MK m d' → q (apaV H w) d') : Ev SM MX5_apart 51 [.ref 0, .int (nI w), .int 1000000, .int (nI 0), .int (nI 0), uJ] [] d (rI q) := by
  have t4 := ok.t4
  have hcs := codes_le (a := 4) (b := nT H) (Nat.le_refl _) t4 (by omega)
  refine for_up (W := fun k d' => Ev SM MX5_apart 51 [.ref 0, .int (nI w), .int (nI (apaS H k).2), .int (nI (apaS H k).1), .int (nI k), uJ] [] d' (rI q)) (I := fun _ d' => MB m d' ∧ ∃ H2, MH 0 d' H2 ∧ like H H2 3 (nT H)) (4 ^ nT H) ?_ ?_ 0 d (Nat.zero_le _) ⟨hk0, H, hM0, fun _ _ _ => rfl⟩
  · rintro d' ⟨g1, H2, g2, g3⟩
    have hle := apaS_le ok (4 ^ nT H)
    have e0 : d' 0 1 = nI (nT H) := g2.nt.trans (congrArg nI (g3 10 0 (by omega)))
    refine bk_X5_apart_51 ?_
    rw [e0]
    refine M_powerOf (b := 4) (by omega) (br_t (nI_le (Nat.le_refl _) (by omega)) ?_)
    rw [e0]
    refine M_lays (o := 12) (base := 4) (by omega) (by omega) (by omega) (by omega) (by omega) fun d3 f1 f2 f3 => ?_
    have b3 : MB m d3 := g1.row f1 (fun j hj => f3 j (by omega))
    rcases hw with a | ⟨p, hp, b⟩
    · subst a
      exact rr_t rfl (M_copies (f := 280) (t := 0) (by omega) (by omega) (by omega) fun d4 u1 u2 u3 => h d4 (b3.fin u1 u2 u3))
    · subst b
      refine rr_f (fun z => absurd (nI_inj (b := 0) (by omega) (by omega) z) (by omega)) ?_
      rw [show (12 : Int32) + nI (10 + p) - 10 = nI (12 + p) from by rw [li_12, li_10, nI_add, pk_sub (by omega), show 12 + (10 + p) - 10 = 12 + p by omega]]
      refine ⟨vp_in_nI (by omega) (by omega), nm_e (M_copies (f := 280) (t := 0) (by omega) (by omega) (by omega) fun d4 u1 u2 u3 => ?_)⟩
      have h := h d4 (b3.fin u1 u2 u3)
      unfold apaV at h
      rw [if_neg (by omega), show 10 + p - 10 = p by omega] at h
      rw [nI_clamp (by omega), f2 p hp]; exact h
  · rintro k d' hk ⟨g1, H2, g2, g3⟩ ih
    have hle := apaS_le ok k
    have hA := apaA_le ok k
    have okS := ok.spr3 k
    have e0 : d' 0 1 = nI (nT H) := g2.nt.trans (congrArg nI (g3 10 0 (by omega)))
    refine bk_X5_apart_51 ?_
    rw [e0]
    refine M_powerOf (b := 4) (by omega) (br_f (fun c => absurd ((nI_leI (by omega) (by omega)).mp c) (by omega)) ?_)
    rw [e0]
    refine M_lays (o := 12) (base := 4) (by omega) (by omega) (by omega) (by omega) (by omega) fun d3 f1 f2 f3 => ?_
    have b3 : MB m d3 := g1.row f1 (fun j hj => f3 j (by omega))
    have s3 : MH 0 d3 (spr H 3 4 (nT H) k) := g2.spr3 ok g3 f1 f3 f2
    refine M_awayMany (sil := 0) s3 okS (by rw [b3.sil]; exact hs) (by omega) fun d4 v1 v2 => ?_
    have b4 := b3.mf v1
    have s4 := s3.mf okS v1
    have := ih d4 ⟨b4, _, s4, spr_like⟩
    rw [apaS_s] at this
    rw [nI_1]
    have c2 : nI (apaS H k).2 ≤ nI (apaA H k) ↔ (apaS H k).2 ≤ apaA H k := nI_leI (by omega) (by omega)
    by_cases z1 : apaA H k < (apaS H k).2
    · rw [if_pos z1] at this
      have c3 : ¬ nI (apaS H k).2 ≤ nI (apaA H k) := fun c => absurd (c2.mp c) (by omega)
      exact br_f c3 (br_f c3 this)
    · rw [if_neg z1] at this
      have c3 : nI (apaS H k).2 ≤ nI (apaA H k) := c2.mpr (by omega)
      exact br_t c3 (br_t c3 this)
theorem two_apart {x m : DD} {H : HH} {p0 : Int32} (hR : RelH H x m) : Two MX4_apart MX5_apart [.ref 0, .int p0] x m := by
  obtain ⟨ok, hX, hM, hO⟩ := id hR
  have t4 := ok.t4
  have iH : isH 23 := by unfold isH; omega
  have xs : ∀ {w f : Nat} {q : Int32 → DD → Prop} {p0 : Int32}, ((w = 0 ∧ f = 0) ∨ (f = 1 ∧ ∃ p, p < nT H ∧ w = 10 + p)) → p0 = nI w → (0 < nT H → ∀ d', XK x d' → q (apaV H w) d') → (nT H = 0 → q (-2) x) → Ev SX MX4_apart 36 [.ref 0, .int p0, .int (nI f), uJ, uJ, uJ, uJ, uJ] [] x (rI q) := by
    intro w f q p0 hw e h1 h2
    subst e
    refine bk_X4_apart_36 ?_
    rw [hX.nt]
    rcases Nat.eq_zero_or_pos (nT H) with z | z
    · exact br_f (by rw [z]; decide) (h2 z)
    · refine br_t (by rw [li_1]; exact (nI_leI (by omega) (by omega)).mpr z) (X_becomeH iH isH1 (by omega) hX ok fun d2 g1 g2 => ?_)
      rw [(hX.kept (fun a _ _ => g1 a (by omega))).nt]
      exact X_power (b := 4) (by omega) (X_apart_83 hX ok hw (fun a ha => g1 a (by omega)) g2 (h1 z))
  have ms : ∀ {w : Nat} {q : Int32 → DD → Prop} {p0 : Int32}, (w = 0 ∨ ∃ p, p < nT H ∧ w = 10 + p) → p0 = nI w → (0 < nT H → ∀ d', MK m d' → q (apaV H w) d') → (nT H = 0 → q (-2) m) → Ev SM MX5_apart 25 [.ref 0, .int p0, uJ, uJ, uJ, uJ] [] m (rI q) := by
    intro w q p0 hw e h1 h2
    subst e
    refine bk_X5_apart_25 ?_
    rw [hM.nt]
    rcases Nat.eq_zero_or_pos (nT H) with z | z
    · exact rr_t (by rw [z]; rfl) (h2 z)
    · exact rr_f (fun y => absurd (nI_inj (b := 0) (by omega) (by omega) y) (by omega)) (M_copies (f := 0) (t := 280) (by omega) (by omega) (by omega) fun d2 g1 g2 g3 => M_apart_51 ok hO.sil hw (MB.beg MK.rf g1 g2 g3) (hM.kept (fun j _ _ => by rw [g1 0 (by omega)]) (fun j _ _ => g2 j (by omega)) ok) (h1 z))
  by_cases e0 : p0 = 0
  · have hx : ∀ {q : Int32 → DD → Prop}, Ev SX MX4_apart 36 [.ref 0, .int p0, .int (nI 0), uJ, uJ, uJ, uJ, uJ] [] x (rI q) → Cn SX MX4_apart [.ref 0, .int p0] x (rI q) := fun t => cn_X4_apart (br_t (by rw [e0]; decide) (br_t e0 t))
    have hm : ∀ {q : Int32 → DD → Prop}, Ev SM MX5_apart 25 [.ref 0, .int p0, uJ, uJ, uJ, uJ] [] m (rI q) → Cn SM MX5_apart [.ref 0, .int p0] m (rI q) := fun t => cn_X5_apart (br_t e0 t)
    rcases Nat.eq_zero_or_pos (nT H) with z | z
    · exact two_ask hR (-2) (hx (xs (w := 0) (Or.inl ⟨rfl, rfl⟩) e0 (fun y => absurd y (by omega)) (fun _ => ⟨rfl, XK.rf⟩))) (hm (ms (w := 0) (Or.inl rfl) e0 (fun y => absurd y (by omega)) (fun _ => ⟨rfl, MK.rf⟩)))
    · exact two_ask hR (apaV H 0) (hx (xs (w := 0) (Or.inl ⟨rfl, rfl⟩) e0 (fun _ d' g => ⟨rfl, g⟩) (fun y => absurd y (by omega)))) (hm (ms (w := 0) (Or.inl rfl) e0 (fun _ d' g => ⟨rfl, g⟩) (fun y => absurd y (by omega))))
  · rcases ten_or (v := p0) (k := nT H) (by omega) with ⟨p, hp, e⟩ | ⟨hz2, hz3⟩
    · have p10 : ¬ p0 < 10 := by rw [e, li_10]; exact fun c => absurd ((nI_ltI (by omega) (by omega)).mp c) (by omega)
      have e10 : p0 - 10 = nI p := by rw [e, li_10, pk_sub (by omega), show 10 + p - 10 = p by omega]
      have hx : ∀ {q : Int32 → DD → Prop}, Ev SX MX4_apart 36 [.ref 0, .int p0, .int (nI 1), uJ, uJ, uJ, uJ, uJ] [] x (rI q) → Cn SX MX4_apart [.ref 0, .int p0] x (rI q) := fun t => cn_X4_apart (br_f p10 (by rw [e10]; exact X_hasTune_y isH1 hX ok hp (y1' (br_f e0 t))))
      have hm : ∀ {q : Int32 → DD → Prop}, Ev SM MX5_apart 25 [.ref 0, .int p0, uJ, uJ, uJ, uJ] [] m (rI q) → Cn SM MX5_apart [.ref 0, .int p0] m (rI q) := fun t => cn_X5_apart (br_f e0 (by rw [hM.nt]; rw [e] at t ⊢; exact M_i10_y (by omega) (by omega) (by omega) (y1 t)))
      exact two_ask hR (apaV H (10 + p)) (hx (xs (Or.inr ⟨rfl, p, hp, rfl⟩) e (fun _ d' g => ⟨rfl, g⟩) (fun y => absurd y (by omega)))) (hm (ms (Or.inr ⟨p, hp, rfl⟩) e (fun _ d' g => ⟨rfl, g⟩) (fun y => absurd y (by omega))))
    · refine two_ask hR (-1) (cn_X4_apart ?_) (cn_X5_apart (br_f e0 ?_))
      · rcases hz3 with y | ⟨y, y2⟩
        · exact br_t y (br_f e0 ⟨rfl, XK.rf⟩)
        · exact br_f y (X_hasTune_n isH1 hX ok y2 (y0' (br_f e0 ⟨rfl, XK.rf⟩)))
      · rw [hM.nt]; exact M_i10_n (by omega) hz2 (y0 ⟨rfl, MK.rf⟩)
end
section
/-! ===== fits ===== -/
def bc1 (x : Int32) : Int32 := x - ((x.toUInt32 >>> (Int32.toUInt32 1 &&& Int32.toUInt32 31)).toInt32 &&& 1431655765)
def bc2 (x : Int32) : Int32 := (x &&& 858993459) + ((x.toUInt32 >>> (Int32.toUInt32 2 &&& Int32.toUInt32 31)).toInt32 &&& 858993459)
def bc3 (x : Int32) : Int32 := (x + (x.toUInt32 >>> (Int32.toUInt32 4 &&& Int32.toUInt32 31)).toInt32) &&& 252645135
def bc4 (x : Int32) : Int32 := x + (x.toUInt32 >>> (Int32.toUInt32 8 &&& Int32.toUInt32 31)).toInt32
def bc5 (x : Int32) : Int32 := x + (x.toUInt32 >>> (Int32.toUInt32 16 &&& Int32.toUInt32 31)).toInt32
theorem bc_all : ∀ a, a < 64 → bc5 (bc4 (bc3 (bc2 (bc1 (nI a))))) &&& 63 = nI (bitsN a 6) := by decide +kernel
theorem X_bitCount {q : Int32 → DD → Prop} {d : DD} {a : Nat} (ha : a < 64) (h : q (nI (bitsN a 6)) d) : Cn SX MJ6_bitCount_0f7a4 [.int (nI a)] d (rI q) := by
  refine cn_J6_bitCount_0f7a4 (nm_e (nm_e (nm_e (nm_e (nm_e ?_)))))
  show q (bc5 (bc4 (bc3 (bc2 (bc1 (nI a))))) &&& 63) d
  rw [bc_all a ha]; exact h
/-- a kind fits what was seen below i -/
def fitF (H : HH) (x : DD) (t k : Nat) : Nat → Bool
  | 0 => true
  | i + 1 => fitF H x t k i && !(decide (x 49 i = nI t) && decide (noteB H t k (x 50 i).toNatClampNeg ≠ x 51 i))
theorem fitF_s {H : HH} {x : DD} {t k i : Nat} : fitF H x t k (i + 1) = (fitF H x t k i && !(decide (x 49 i = nI t) && decide (noteB H t k (x 50 i).toNatClampNeg ≠ x 51 i))) := rfl
def b2 (b : Bool) : Int32 := if b then 1 else 0
theorem X_fk_15 {q : Int32 → DD → Prop} {x m : DD} {H : HH} {t k n : Nat} {l2 : Int32} (hX : XH 1 x H) (ok : OKH H) (ht : t < nT H) (hk : k < 4) (hn : n ≤ 6) (e : x 0 11 = nI n) (a4 : ∀ i, i < n → x 49 i = m 12 (3 * i) ∧ x 50 i = m 12 (3 * i + 1) ∧ x 51 i = m 12 (3 * i + 2) ∧ ∃ c, c < 160 ∧ x 50 i = nI c) (h : ((b2 (fitF H x t k n) = 0 → Ev SX MX4_fittingKinds 4 [.ref 0, .int (nI t), .int l2, .int (nI k + 1), uJ, uJ] [] x (rI q)) ∧ (¬ b2 (fitF H x t k n) = 0 → (∀ x3 : Int32, x3 = (l2 ||| (1 <<< (nI k &&& 31))) → Ev SX MX4_fittingKinds 4 [.ref 0, .int (nI t), .int x3, .int (nI k + 1), uJ, uJ] [] x (rI q))))) : Ev SX MX4_fittingKinds 15 [.ref 0, .int (nI t), .int l2, .int (nI k), .int (nI 1), .int (nI 0)] [] x (rI q) := by
  refine for_up (W := fun i d' => Ev SX MX4_fittingKinds 15 [.ref 0, .int (nI t), .int l2, .int (nI k), .int (b2 (fitF H x t k i)), .int (nI i)] [] d' (rI q)) (I := fun _ d' => d' = x) n ?_ ?_ 0 x (Nat.zero_le _) rfl
  · rintro d' rfl
    refine bk_X4_fittingKinds_15 (br_t ?_ h)
    rw [e]; exact nI_le (Nat.le_refl _) (by omega)
  · rintro i d' hi rfl ih
    obtain ⟨_, _, _, c, hc, ec⟩ := a4 i hi
    have i6 : vp_in (nI i) 6 := vp_in_nI (by omega) (by omega)
    have := ih d' rfl
    rw [fitF_s] at this
    refine bk_X4_fittingKinds_15 (br_f ?_ ⟨i6, ?_⟩)
    · rw [e]; exact fun c => absurd ((nI_leI (by omega) (by omega)).mp c) (by omega)
    · rw [nI_clamp (by omega), nI_1]
      by_cases z : d' 49 i = nI t
      · refine rr_t z ⟨i6, ?_⟩
        rw [ec]
        refine X_noteAs isH1 hX ok ht (by omega) hc ⟨i6, ?_⟩
        rw [decide_eq_true z, Bool.true_and, ec, nI_clamp (by omega)] at this
        by_cases y : noteB H t k c = d' 51 i
        · rw [decide_eq_false (fun w => w y), Bool.not_false, Bool.and_true] at this
          exact br_t y this
        · rw [decide_eq_true y, Bool.not_true, Bool.and_false] at this
          exact br_f y this
      · rw [decide_eq_false z, Bool.false_and, Bool.not_false, Bool.and_true] at this
        exact rr_f z this
theorem M_fk_15 {q : Int32 → DD → Prop} {x m : DD} {H : HH} {t k n : Nat} {l2 : Int32} (hM : MH 0 m H) (ok : OKH H) (ht : t < nT H) (hk : k < 4) (hn : n ≤ 6) (e : m 0 28 = nI n) (a4 : ∀ i, i < n → x 49 i = m 12 (3 * i) ∧ x 50 i = m 12 (3 * i + 1) ∧ x 51 i = m 12 (3 * i + 2) ∧ ∃ c, c < 160 ∧ x 50 i = nI c) (h : ((b2 (fitF H x t k n) = 0 → Ev SM MX5_kindsOf 4 [.ref 0, .int (nI t), .int (l2 ||| 0), .int (nI k + 1), uJ, uJ] [] m (rI q)) ∧ (¬ b2 (fitF H x t k n) = 0 → (∀ x3 : Int32, x3 = (l2 ||| (1 <<< (nI k &&& 31))) → Ev SM MX5_kindsOf 4 [.ref 0, .int (nI t), .int x3, .int (nI k + 1), uJ, uJ] [] m (rI q))))) : Ev SM MX5_kindsOf 15 [.ref 0, .int (nI t), .int l2, .int (nI k), .int (nI 1), .int (nI 0)] [] m (rI q) := by
  refine for_up (W := fun i d' => Ev SM MX5_kindsOf 15 [.ref 0, .int (nI t), .int l2, .int (nI k), .int (b2 (fitF H x t k i)), .int (nI i)] [] d' (rI q)) (I := fun _ d' => d' = m) n ?_ ?_ 0 m (Nat.zero_le _) rfl
  · rintro d' rfl
    refine bk_X5_kindsOf_15 (br_t ?_ h)
    rw [e]; exact nI_le (Nat.le_refl _) (by omega)
  · rintro i d' hi rfl ih
    obtain ⟨a1, a2, a3, c, hc, ec⟩ := a4 i hi
    have := ih d' rfl
    rw [fitF_s] at this
    refine bk_X5_kindsOf_15 (br_f ?_ ?_)
    · rw [e]; exact fun c => absurd ((nI_leI (by omega) (by omega)).mp c) (by omega)
    · rw [nI_1, show (3 : Int32) * nI i = nI (3 * i) from by rw [li_3, pk_mul], nI_1, show nI (3 * i) + 2 = nI (3 * i + 2) from nI_add _ 2, nI_clamp (by omega), nI_clamp (by omega), nI_clamp (by omega)]
      by_cases f : fitF H x t k i = true
      · rw [f] at this ⊢
        refine br_f (by decide) ⟨vp_in_nI (by omega) (by omega), ?_⟩
        by_cases z : x 49 i = nI t
        · refine rr_t (a1.symm.trans z) ⟨vp_in_nI (by omega) (by omega), ?_⟩
          rw [← a2, ec]
          refine M_noteBy hM ok ht (by omega) hc ⟨vp_in_nI (by omega) (by omega), ?_⟩
          rw [decide_eq_true z, Bool.true_and, ec, nI_clamp (by omega), Bool.true_and] at this
          by_cases y : noteB H t k c = x 51 i
          · rw [decide_eq_false (fun w => w y)] at this
            exact rr_t (y.trans a3) this
          · rw [decide_eq_true y] at this
            exact rr_f (fun w => y (w.trans a3.symm)) this
        · rw [decide_eq_false z] at this
          exact rr_f (fun w => z (a1.trans w)) this
      · have f' : fitF H x t k i = false := by revert f; cases fitF H x t k i <;> simp
        rw [f', Bool.false_and] at this
        rw [f']
        exact br_t rfl this
def fitM (H : HH) (x : DD) (t n : Nat) : Nat := maskN (fun k => fitF H x t k n) 4
theorem fitM_lt {H : HH} {x : DD} {t n : Nat} : fitM H x t n < 16 := maskN_lt _ 4
theorem X_fittingKinds {q : Int32 → DD → Prop} {x m : DD} {H : HH} {t n : Nat} (hX : XH 1 x H) (ok : OKH H) (ht : t < nT H) (hn : n ≤ 6) (e : x 0 11 = nI n) (a4 : ∀ i, i < n → x 49 i = m 12 (3 * i) ∧ x 50 i = m 12 (3 * i + 1) ∧ x 51 i = m 12 (3 * i + 2) ∧ ∃ c, c < 160 ∧ x 50 i = nI c) (h : q (nI (fitM H x t n)) x) : Cn SX MX4_fittingKinds [.ref 0, .int (nI t)] x (rI q) := by
  refine cn_X4_fittingKinds ?_
  rw [li_0]
  refine for_up (W := fun k d' => Ev SX MX4_fittingKinds 4 [.ref 0, .int (nI t), .int (nI (maskN (fun k => fitF H x t k n) k)), .int (nI k), uJ, uJ] [] d' (rI q)) (I := fun _ d' => d' = x) 4 ?_ ?_ 0 x (Nat.zero_le _) rfl
  · rintro d' rfl
    exact bk_X4_fittingKinds_4 (br_t (by decide) h)
  · rintro k d' hk rfl ih
    have ee : maskN (fun k => fitF H d' t k n) (k + 1) = maskN (fun k => fitF H d' t k n) k + (if fitF H d' t k n = true then 2 ^ k else 0) := rfl
    have := ih d' rfl
    rw [ee] at this
    refine bk_X4_fittingKinds_4 (br_f ?_ (X_fk_15 hX ok ht hk hn e a4 ?_))
    · rw [li_4]; exact fun c => absurd ((nI_leI (by omega) (by omega)).mp c) (by omega)
    · rw [nI_1, shl1 (by omega), mask_or (p := fun k => fitF H d' t k n) (by omega)]
      cases hf : fitF H d' t k n
      · rw [hf] at this; exact br_t rfl this
      · rw [hf] at this; exact br_f (by decide) (nm_e this)
theorem M_kindsOf {q : Int32 → DD → Prop} {x m : DD} {H : HH} {t n : Nat} (hM : MH 0 m H) (ok : OKH H) (ht : t < nT H) (hn : n ≤ 6) (e : m 0 28 = nI n) (a4 : ∀ i, i < n → x 49 i = m 12 (3 * i) ∧ x 50 i = m 12 (3 * i + 1) ∧ x 51 i = m 12 (3 * i + 2) ∧ ∃ c, c < 160 ∧ x 50 i = nI c) (h : q (nI (fitM H x t n)) m) : Cn SM MX5_kindsOf [.ref 0, .int (nI t)] m (rI q) := by
  refine cn_X5_kindsOf ?_
  rw [li_0]
  refine for_up (W := fun k d' => Ev SM MX5_kindsOf 4 [.ref 0, .int (nI t), .int (nI (maskN (fun k => fitF H x t k n) k)), .int (nI k), uJ, uJ] [] d' (rI q)) (I := fun _ d' => d' = m) 4 ?_ ?_ 0 m (Nat.zero_le _) rfl
  · rintro d' rfl
    exact bk_X5_kindsOf_4 (br_t (by decide) h)
  · rintro k d' hk rfl ih
    have ee : maskN (fun k => fitF H x t k n) (k + 1) = maskN (fun k => fitF H x t k n) k + (if fitF H x t k n = true then 2 ^ k else 0) := rfl
    have := ih d' rfl
    rw [ee] at this
    refine bk_X5_kindsOf_4 (br_f ?_ (M_fk_15 (x := x) hM ok ht hk hn e a4 ?_))
    · rw [li_4]; exact fun c => absurd ((nI_leI (by omega) (by omega)).mp c) (by omega)
    · rw [nI_1, shl1 (by omega), mask_or (p := fun k => fitF H x t k n) (by omega), show nI (maskN (fun k => fitF H x t k n) k) ||| 0 = nI (maskN (fun k => fitF H x t k n) k) from by rw [li_0, fa_or]; simp]
      cases hf : fitF H x t k n
      · rw [hf] at this; exact br_t rfl this
      · rw [hf] at this; exact br_f (by decide) (nm_e this)
theorem two_fits {x m : DD} {H : HH} {p0 : Int32} (hR : RelH H x m) : Two MX4_fits MX5_fits [.ref 0, .int p0] x m := by
  obtain ⟨ok, hX, hM, hO⟩ := id hR
  have o4 := ok.t4
  obtain ⟨n, a1, a2, a3, a4⟩ := hO.2.1
  rcases ge_of (n := nT H) (v := p0) (by omega) with ⟨t, ht, rfl⟩ | hz
  · exact two_ask hR (nI (fitM H x t n)) (cn_X4_fits (X_hasTune_y isH1 hX ok ht (y1' (X_fittingKinds hX ok ht a1 a2 a4 ⟨rfl, XK.rf⟩)))) (cn_X5_fits (M_isTune_y hM ok ht (y1' (M_kindsOf hM ok ht a1 a3 a4 ⟨rfl, MK.rf⟩))))
  · exact two_ask hR (-1) (cn_X4_fits (X_hasTune_n isH1 hX ok hz (y0' ⟨rfl, XK.rf⟩))) (cn_X5_fits (M_isTune_n hM ok hz (y0' ⟨rfl, MK.rf⟩)))
end
section
/-! ===== listen ===== -/
theorem both_b : ∀ K, K < 16 → ∀ k, k < 4 → ∀ o, o < 4 → (((nI K >>> (nI k &&& 31)) &&& (nI K >>> (nI o &&& 31))) &&& 1) = if (K.testBit k && K.testBit o) = true then 1 else 0 := by decide +kernel
def alkB (H : HH) (t K m k o : Nat) : Bool := (K.testBit k && K.testBit o) && decide (noteB H t k m = noteB H t o m)
def alk (H : HH) (t K m k : Nat) : Nat → Nat := sumN (fun o => if alkB H t K m k o then 1 else 0)
theorem alk_s {H : HH} {t K m k o : Nat} : alk H t K m k (o + 1) = alk H t K m k o + (if alkB H t K m k o = true then 1 else 0) := rfl
theorem alk_le {H : HH} {t K m k o : Nat} : alk H t K m k o ≤ o := by
  have : alk H t K m k o ≤ o * 1 := sumN_le (fun i _ => by split <;> omega)
  omega
def wst (H : HH) (t K m : Nat) : Nat → Nat := itr (fun k s => if s < alk H t K m k 4 then alk H t K m k 4 else s) 0
theorem wst_s {H : HH} {t K m k : Nat} : wst H t K m (k + 1) = if wst H t K m k < alk H t K m k 4 then alk H t K m k 4 else wst H t K m k := rfl
theorem wst_le {H : HH} {t K m : Nat} : ∀ k, wst H t K m k ≤ 4 := by
  intro k
  induction k with
  | zero => exact Nat.zero_le _
  | succ k ih =>
    have := alk_le (H := H) (t := t) (K := K) (m := m) (k := k) (o := 4)
    rw [wst_s]; split <;> omega
def lisS (H : HH) (t K : Nat) : Nat → Nat × Nat := itr (fun m s => if wst H t K m 4 < s.1 then (wst H t K m 4, m + 1) else s) (bitsN K 6, 0)
theorem lisS_s {H : HH} {t K m : Nat} : lisS H t K (m + 1) = if wst H t K m 4 < (lisS H t K m).1 then (wst H t K m 4, m + 1) else lisS H t K m := rfl
theorem bits6 {K : Nat} : bitsN K 6 ≤ 6 := by
  have : bitsN K 6 ≤ 6 * 1 := sumN_le (fun i _ => by split <;> omega)
  omega
theorem lisS_le {H : HH} {t K : Nat} : ∀ m, (lisS H t K m).1 ≤ 6 ∧ (lisS H t K m).2 ≤ m := by
  intro m
  induction m with
  | zero => exact ⟨bits6, Nat.le_refl _⟩
  | succ m ih =>
    have := wst_le (H := H) (t := t) (K := K) (m := m) 4
    rw [lisS_s]
    split
    · exact ⟨Nat.le_trans this (by omega), Nat.le_refl _⟩
    · exact ⟨ih.1, by omega⟩
def lisV (s : Nat × Nat) (w : Nat) : Int32 := if s.2 = 0 then -4 else if w = 0 then nI (s.2 - 1) else nI s.1
theorem X_left {q : Int32 → DD → Prop} {d : DD} {H : HH} {t K mi : Nat} (hX : XH 1 d H) (ok : OKH H) (ht : t < nT H) (hK : K < 16) (hm : mi < 160) (h : q (nI (wst H t K mi 4)) d) : Cn SX MX4_leftAtWorst [.ref 0, .int (nI t), .int (nI K), .int (nI mi)] d (rI q) := by
  refine cn_X4_leftAtWorst ?_
  rw [li_0]
  refine for_up (W := fun k d' => Ev SX MX4_leftAtWorst 6 [.ref 0, .int (nI t), .int (nI K), .int (nI mi), .int (nI (wst H t K mi k)), .int (nI k), uJ, uJ, uJ] [] d' (rI q)) (I := fun _ d' => d' = d) 4 ?_ ?_ 0 d (Nat.zero_le _) rfl
  · rintro d' rfl
    exact bk_X4_leftAtWorst_6 (br_t (by decide) h)
  · rintro k d' hk rfl ih
    have hw := wst_le (H := H) (t := t) (K := K) (m := mi) k
    refine bk_X4_leftAtWorst_6 (br_f ?_ ?_)
    · rw [li_4]; exact fun c => absurd ((nI_leI (by omega) (by omega)).mp c) (by omega)
    · rw [li_0]
      refine for_up (W := fun o d2 => Ev SX MX4_leftAtWorst 18 [.ref 0, .int (nI t), .int (nI K), .int (nI mi), .int (nI (wst H t K mi k)), .int (nI k), .int (nI (alk H t K mi k o)), .int (nI o), uJ] [] d2 (rI q)) (I := fun _ d2 => d2 = d') 4 ?_ ?_ 0 d' (Nat.zero_le _) rfl
      · rintro d2 rfl
        have ha := alk_le (H := H) (t := t) (K := K) (m := mi) (k := k) (o := 4)
        have := ih d2 rfl
        rw [wst_s] at this
        refine bk_X4_leftAtWorst_18 (br_t (by decide) (nm_e ?_))
        rw [nI_1]
        by_cases z : wst H t K mi k < alk H t K mi k 4
        · rw [if_pos z] at this; rw [if_pos ((nI_ltI (by omega) (by omega)).mpr z)]; exact this
        · rw [if_neg z] at this; rw [if_neg (mt (nI_ltI (by omega) (by omega)).mp z)]; exact this
      · rintro o d2 ho rfl ih2
        have := ih2 d2 rfl
        rw [alk_s] at this
        refine bk_X4_leftAtWorst_18 (br_f ?_ ?_)
        · rw [li_4]; exact fun c => absurd ((nI_leI (by omega) (by omega)).mp c) (by omega)
        · rw [both_b K hK k hk o ho]
          by_cases z : (K.testBit k && K.testBit o) = true
          · rw [if_pos z]
            refine rr_t rfl (bk_X4_leftAtWorst_44 (br_f (by decide) (X_noteAs isH1 hX ok ht (by omega) hm (X_noteAs isH1 hX ok ht (by omega) hm ?_))))
            rw [nI_1, nI_1]
            unfold alkB at this
            rw [z, Bool.true_and] at this
            by_cases y : noteB H t k mi = noteB H t o mi
            · rw [decide_eq_true y] at this; exact rr_t y this
            · rw [decide_eq_false y] at this; exact rr_f y this
          · rw [if_neg z]
            refine rr_f (by decide) (bk_X4_leftAtWorst_44 (br_t rfl ?_))
            rw [nI_1]
            have z' : (K.testBit k && K.testBit o) = false := by revert z; cases (K.testBit k && K.testBit o) <;> simp
            unfold alkB at this
            rw [z', Bool.false_and] at this
            exact this
theorem X_listen_40 {q : Int32 → DD → Prop} {d : DD} {H : HH} {t w K : Nat} (hX : XH 1 d H) (ok : OKH H) (ht : t < nT H) (hK : K < 16) (hw : w < 2) (h : q (lisV (lisS H t K 160) w) d) : Ev SX MX4_listen 40 [.ref 0, .int (nI t), .int (nI w), .int (nI K), .int (nI (bitsN K 6)), .int (-1), .int (nI 0), uJ] [] d (rI q) := by
  refine for_up (W := fun i d' => Ev SX MX4_listen 40 [.ref 0, .int (nI t), .int (nI w), .int (nI K), .int (nI (lisS H t K i).1), .int (mo1 (lisS H t K i).2), .int (nI i), uJ] [] d' (rI q)) (I := fun _ d' => d' = d) 160 ?_ ?_ 0 d (Nat.zero_le _) rfl
  · rintro d' rfl
    have hl := lisS_le (H := H) (t := t) (K := K) 160
    refine bk_X4_listen_40 (br_t (by decide) ?_)
    unfold lisV at h
    unfold mo1
    by_cases z : (lisS H t K 160).2 = 0
    · rw [if_pos z] at h; rw [if_pos z]
      exact br_f (by decide) h
    · rw [if_neg z] at h; rw [if_neg z]
      refine br_t (by rw [li_0]; exact nI_le (Nat.zero_le _) (by omega)) ?_
      rcases (show w = 0 ∨ w = 1 by omega) with rfl | rfl
      · exact rr_t rfl h
      · exact rr_f (by decide) h
  · rintro i d' hi rfl ih
    have hl := lisS_le (H := H) (t := t) (K := K) i
    have hw4 := wst_le (H := H) (t := t) (K := K) (m := i) 4
    have := ih d' rfl
    rw [lisS_s] at this
    refine bk_X4_listen_40 (br_f ?_ (X_left hX ok ht hK hi ?_))
    · rw [li_160]; exact fun c => absurd ((nI_leI (by omega) (by omega)).mp c) (by omega)
    · rw [nI_1]
      have c2 : nI (lisS H t K i).1 ≤ nI (wst H t K i 4) ↔ (lisS H t K i).1 ≤ wst H t K i 4 := nI_leI (by omega) (by omega)
      by_cases z : wst H t K i 4 < (lisS H t K i).1
      · rw [if_pos z] at this
        exact br_f (fun c => absurd (c2.mp c) (by omega)) this
      · rw [if_neg z] at this
        exact br_t (c2.mpr (by omega)) this
end
section
theorem alk_no {H : HH} {t K m k : Nat} (h : K.testBit k = false) : ∀ o, alk H t K m k o = 0 := by
  intro o
  induction o with
  | zero => rfl
  | succ o ih => rw [alk_s, ih]; unfold alkB; rw [h, Bool.false_and, Bool.false_and]; rfl
theorem M_listen_53 {q : Int32 → DD → Prop} {d : DD} {H : HH} {t w K mi : Nat} {l4 l5 : Int32} (hM : MH 0 d H) (ok : OKH H) (ht : t < nT H) (hK : K < 16) (hm : mi < 160) (h : Ev SM MX5_listen 53 [.ref 0, .int (nI t), .int (nI w), .int (nI K), .int l4, .int l5, .int (nI mi), .int (nI (wst H t K mi 4)), .int (nI 4), uJ, uJ] [] d (rI q)) : Ev SM MX5_listen 53 [.ref 0, .int (nI t), .int (nI w), .int (nI K), .int l4, .int l5, .int (nI mi), .int (nI 0), .int (nI 0), uJ, uJ] [] d (rI q) := by
  refine for_up (W := fun k d' => Ev SM MX5_listen 53 [.ref 0, .int (nI t), .int (nI w), .int (nI K), .int l4, .int l5, .int (nI mi), .int (nI (wst H t K mi k)), .int (nI k), uJ, uJ] [] d' (rI q)) (I := fun _ d' => d' = d) 4 ?_ ?_ 0 d (Nat.zero_le _) rfl
  · rintro d' rfl
    exact h
  · rintro k d' hk rfl ih
    have hw := wst_le (H := H) (t := t) (K := K) (m := mi) k
    have ha := alk_le (H := H) (t := t) (K := K) (m := mi) (k := k) (o := 4)
    have nx := ih d' rfl
    rw [wst_s] at nx
    have ex : ∀ v, v = alk H t K mi k 4 → ((nI v ≤ nI (wst H t K mi k) → Ev SM MX5_listen 53 [.ref 0, .int (nI t), .int (nI w), .int (nI K), .int l4, .int l5, .int (nI mi), .int (nI (wst H t K mi k)), .int (nI k + 1), uJ, uJ] [] d' (rI q)) ∧ (¬ nI v ≤ nI (wst H t K mi k) → Ev SM MX5_listen 53 [.ref 0, .int (nI t), .int (nI w), .int (nI K), .int l4, .int l5, .int (nI mi), .int (nI v), .int (nI k + 1), uJ, uJ] [] d' (rI q))) := by
      intro v e
      subst e
      rw [nI_1]
      have c2 : nI (alk H t K mi k 4) ≤ nI (wst H t K mi k) ↔ alk H t K mi k 4 ≤ wst H t K mi k := nI_leI (by omega) (by omega)
      by_cases z : wst H t K mi k < alk H t K mi k 4
      · rw [if_pos z] at nx; exact br_f (fun c => absurd (c2.mp c) (by omega)) nx
      · rw [if_neg z] at nx; exact br_t (c2.mpr (by omega)) nx
    refine bk_X5_listen_53 (br_f ?_ ?_)
    · rw [li_4]; exact fun c => absurd ((nI_leI (by omega) (by omega)).mp c) (by omega)
    · rw [li_0]
      cases hk1 : K.testBit k
      · refine bk_X5_listen_65 (br_f (by decide) (rr_f ?_ (ex 0 (alk_no hk1 4).symm)))
        rw [bit_of (by omega) (by omega), hk1]; decide
      · refine for_up (W := fun o d2 => Ev SM MX5_listen 65 [.ref 0, .int (nI t), .int (nI w), .int (nI K), .int l4, .int l5, .int (nI mi), .int (nI (wst H t K mi k)), .int (nI k), .int (nI (alk H t K mi k o)), .int (nI o)] [] d2 (rI q)) (I := fun _ d2 => d2 = d') 4 ?_ ?_ 0 d' (Nat.zero_le _) rfl
        · rintro d2 rfl
          exact bk_X5_listen_65 (br_t (by decide) (ex _ rfl))
        · rintro o d2 ho rfl ih2
          have := ih2 d2 rfl
          rw [alk_s] at this
          unfold alkB at this
          rw [hk1, Bool.true_and] at this
          refine bk_X5_listen_65 (br_f ?_ (rr_t ?_ ?_))
          · rw [li_4]; exact fun c => absurd ((nI_leI (by omega) (by omega)).mp c) (by omega)
          · rw [bit_of (by omega) (by omega), hk1]; rfl
          · rw [bit_of (by omega) (by omega), nI_1, nI_1, show nI (alk H t K mi k o) + 0 = nI (alk H t K mi k o + 0) from nI_add _ 0]
            cases hk2 : K.testBit o
            · rw [hk2, Bool.false_and] at this
              exact rr_f (by decide) this
            · rw [hk2, Bool.true_and] at this
              refine rr_t rfl (M_noteBy hM ok ht (by omega) hm (M_noteBy hM ok ht (by omega) hm ?_))
              by_cases y : noteB H t k mi = noteB H t o mi
              · rw [decide_eq_true y] at this; exact rr_t y this
              · rw [decide_eq_false y] at this; exact rr_f y this
theorem M_listen_39 {q : Int32 → DD → Prop} {d : DD} {H : HH} {t w K : Nat} (hM : MH 0 d H) (ok : OKH H) (ht : t < nT H) (hK : K < 16) (hw : w < 2) (h : q (lisV (lisS H t K 160) w) d) : Ev SM MX5_listen 39 [.ref 0, .int (nI t), .int (nI w), .int (nI K), .int (nI (bitsN K 6)), .int (-4), .int (nI 0), uJ, uJ, uJ, uJ] [] d (rI q) := by
  refine for_up (W := fun i d' => Ev SM MX5_listen 39 [.ref 0, .int (nI t), .int (nI w), .int (nI K), .int (nI (lisS H t K i).1), .int (mv (lisS H t K i).2), .int (nI i), uJ, uJ, uJ, uJ] [] d' (rI q)) (I := fun _ d' => d' = d) 160 ?_ ?_ 0 d (Nat.zero_le _) rfl
  · rintro d' rfl
    have hl := lisS_le (H := H) (t := t) (K := K) 160
    refine bk_X5_listen_39 (br_t (by decide) ?_)
    unfold lisV at h
    unfold mv
    by_cases z : (lisS H t K 160).2 = 0
    · rw [if_pos z] at h; rw [if_pos z]
      exact br_t rfl h
    · rw [if_neg z] at h; rw [if_neg z]
      refine br_f (ne_m4 (by omega)) ?_
      rcases (show w = 0 ∨ w = 1 by omega) with rfl | rfl
      · exact rr_t rfl h
      · exact rr_f (by decide) h
  · rintro i d' hi rfl ih
    have hl := lisS_le (H := H) (t := t) (K := K) i
    have hw4 := wst_le (H := H) (t := t) (K := K) (m := i) 4
    have := ih d' rfl
    rw [lisS_s] at this
    refine bk_X5_listen_39 (br_f ?_ (M_listen_53 hM ok ht hK hi (bk_X5_listen_53 (br_t (by decide) ?_))))
    · rw [li_159]; exact fun c => absurd ((nI_ltI (by omega) (by omega)).mp c) (by omega)
    · rw [nI_1]
      have c2 : nI (lisS H t K i).1 ≤ nI (wst H t K i 4) ↔ (lisS H t K i).1 ≤ wst H t K i 4 := nI_leI (by omega) (by omega)
      by_cases z : wst H t K i 4 < (lisS H t K i).1
      · rw [if_pos z, mv_s] at this
        have c3 : ¬ nI (lisS H t K i).1 ≤ nI (wst H t K i 4) := fun c => absurd (c2.mp c) (by omega)
        exact br_f c3 (br_f c3 this)
      · rw [if_neg z] at this
        have c3 := c2.mpr (show (lisS H t K i).1 ≤ wst H t K i 4 by omega)
        exact br_t c3 (br_t c3 this)
theorem two_listen {x m : DD} {H : HH} {p0 p1 : Int32} (hR : RelH H x m) : Two MX4_listen MX5_listen [.ref 0, .int p0, .int p1] x m := by
  obtain ⟨ok, hX, hM, hO⟩ := id hR
  have o4 := ok.t4
  obtain ⟨n, a1, a2, a3, a4⟩ := hO.2.1
  rcases ge_of (n := nT H) (v := p0) (by omega) with ⟨t, ht, rfl⟩ | hz
  · rcases ge_of (n := 2) (v := p1) (by omega) with ⟨w, hw, rfl⟩ | hz2
    · have hK : fitM H x t n < 16 := fitM_lt
      exact two_ask hR (lisV (lisS H t (fitM H x t n) 160) w) (cn_X4_listen (X_hasTune_y isH1 hX ok ht (y1' (X_win_y (n := 1) (by omega) (by omega) (y1 (X_fittingKinds hX ok ht a1 a2 a4 (X_bitCount (by omega) (X_listen_40 hX ok ht hK hw ⟨rfl, XK.rf⟩)))))))) (cn_X5_listen (M_isTune_y hM ok ht (y1' (M_win_y (n := 1) (by omega) (by omega) (y1 (M_kindsOf hM ok ht a1 a3 a4 (M_bitsOf (by omega) (M_listen_39 hM ok ht hK hw ⟨rfl, MK.rf⟩))))))))
    · exact two_ask hR (-1) (cn_X4_listen (X_hasTune_y isH1 hX ok ht (y1' (X_win_n (n := 1) (by omega) hz2 (y0 ⟨rfl, XK.rf⟩))))) (cn_X5_listen (M_isTune_y hM ok ht (y1' (M_win_n (n := 1) (by omega) hz2 (y0 ⟨rfl, MK.rf⟩)))))
  · exact two_ask hR (-1) (cn_X4_listen (X_hasTune_n isH1 hX ok hz (y0' ⟨rfl, XK.rf⟩))) (cn_X5_listen (M_isTune_n hM ok hz (y0' ⟨rfl, MK.rf⟩)))
end
section
/-! ===== drift ===== -/
theorem mid_eq (s : Int32) : (s.toUInt32 >>> (Int32.toUInt32 16 &&& Int32.toUInt32 31)).toInt32 &&& 32767 = (s >>> ((16 : Int32) &&& 31)) &&& 32767 := by
  have e15 : ∀ i, i < 32 → bt 32767 i = decide (i < 15) := by decide +kernel
  refine b_ext fun i hi => ?_
  rw [b_and, b_and, e15 i hi]
  by_cases z : i < 15
  · rw [show (s >>> ((16 : Int32) &&& 31)) = s >>> (nI 16 &&& 31) from rfl, b_sshr 16 (by omega) s hi, if_pos (by omega), show (s.toUInt32 >>> (Int32.toUInt32 16 &&& Int32.toUInt32 31)).toInt32 = (s.toUInt32 >>> ((nI 16).toUInt32 &&& Int32.toUInt32 31)).toInt32 from rfl, b_ushr 16 (by omega)]
  · rw [decide_eq_false z, Bool.and_false, Bool.and_false]
theorem and15 (x : Int32) : ∃ n, n < 32768 ∧ x &&& 32767 = nI n := by
  refine ⟨(x &&& 32767).toBitVec.toNat, ?_, ?_⟩
  · rw [Int32.toBitVec_and, BitVec.toNat_and]
    exact Nat.lt_of_le_of_lt Nat.and_le_right (by decide)
  · refine Int32.toBitVec_inj.mp (BitVec.eq_of_toNat_eq ?_)
    show _ = (BitVec.ofNat 32 _).toNat
    rw [BitVec.toNat_ofNat, Nat.mod_eq_of_lt (BitVec.isLt _)]
def sd (s : Int32) : Int32 := s * 1103515245 + 12345
def mid (s : Int32) : Nat := ((s >>> ((16 : Int32) &&& 31)) &&& 32767).toNatClampNeg
theorem mid_n (s : Int32) : (s >>> ((16 : Int32) &&& 31)) &&& 32767 = nI (mid s) ∧ mid s < 32768 := by
  obtain ⟨n, hn, e⟩ := and15 (s >>> ((16 : Int32) &&& 31))
  have : mid s = n := by unfold mid; rw [e, nI_clamp (by omega)]
  rw [this]; exact ⟨e, hn⟩
/-- the house behind one change -/
def dri1 (H : HH) (s : Int32) : HH := pu H 4 (8 * (mid (sd s) % nT H) + mid (sd (sd s)) % H 1 (mid (sd s) % nT H)) (mid (sd (sd s)) / 10 % 10)
def driZ (s : Int32) : Nat → Int32
  | 0 => s
  | k + 1 => sd (sd (driZ s k))
def driH (H : HH) (s : Int32) : Nat → HH
  | 0 => H
  | k + 1 => dri1 (driH H s k) (driZ s k)
def driA (H : HH) (s : Int32) (k : Nat) : Nat := awayS (driH H s (k + 1)) (playS (driH H s (k + 1)) 0)
def driB (H : HH) (s : Int32) (k : Nat) : Nat := costS (driH H s (k + 1)) (playS (driH H s (k + 1)) 0)
def driM (H : HH) (s : Int32) : Nat → Nat
  | 0 => 0
  | k + 1 => if driM H s k < driA H s k then driA H s k else driM H s k
theorem driM_s {H : HH} {s : Int32} {k : Nat} : driM H s (k + 1) = if driM H s k < driA H s k then driA H s k else driM H s k := rfl
def driC (H : HH) (s : Int32) : Nat → Nat := sumN (driB H s)
theorem dri1_10 {H : HH} {s : Int32} {j : Nat} : dri1 H s 10 j = H 10 j := pu_n (by omega)
theorem dri1_ok {H : HH} (ok : OKH H) (s : Int32) : OKH (dri1 H s) := ok.put (by omega) ⟨by simp, by simp, by simp, by simp, fun _ => by have := Nat.mod_lt (mid (sd (sd s)) / 10) (show 0 < 10 by decide); omega, by simp, by simp, by simp, by simp, by simp⟩
theorem driH_ok {H : HH} {s : Int32} (ok : OKH H) : ∀ k, OKH (driH H s k) ∧ ∀ j, driH H s k 10 j = H 10 j := by
  intro k
  induction k with
  | zero => exact ⟨ok, fun _ => rfl⟩
  | succ k ih => exact ⟨dri1_ok ih.1 _, fun j => dri1_10.trans (ih.2 j)⟩
theorem driM_le {H : HH} {s : Int32} (ok : OKH H) : ∀ k, driM H s k ≤ 6 := by
  intro k
  induction k with
  | zero => exact Nat.zero_le _
  | succ k ih =>
    have : driA H s k ≤ 6 := awayS_le (driH_ok ok (k + 1)).1
    rw [driM_s]; split <;> assumption
def driV (H : HH) (s : Int32) (n w : Nat) : Int32 := if w = 0 then nI (driM H s n) else nI (driC H s n)
theorem X_spoil {q : DD → Prop} {d : DD} {b t v : Nat} {H : HH} (Hb : isH b) (hX : XH b d H) (ok : OKH H) (ht : t < nT H) (hv : v < 32768) (h : q (up d (b + 5) (8 * t + v % H 1 t) (nI (v / 10 % 10)))) : Cn SX MX0_spoil [.ref b, .int (nI t), .int (nI v)] d (rV q) := by
  have o4 := ok.t4
  have ot := ok.tt ht
  have h1 := ot.2.1
  have h8 := ot.2.2.1
  have hm := Nat.mod_lt v (show 0 < H 1 t by omega)
  refine cn_X0_spoil Hb ⟨vp_in_nI (by omega) (by omega), nm_e (br_f ?_ ⟨?_, ?_⟩)⟩
  · rw [nI_clamp (by omega), hX.notes ht, li_0]; exact fun c => absurd ((nI_leI (by omega) (by omega)).mp c) (by omega)
  · rw [nI_clamp (by omega), hX.notes ht]; exact fun c => absurd (nI_inj (b := 0) (by omega) (by omega) c) (by omega)
  · rw [nI_clamp (by omega), hX.notes ht, jrem_nI (by omega) (by omega) (by omega), li_8, pk_mul, nI_add, Nat.mul_comm t 8, li_10, pk_div (by omega) (by omega) (by omega), jrem_nI (Nat.lt_of_le_of_lt (Nat.div_le_self _ _) (by omega)) (by omega) (by omega)]
    refine ⟨vp_in_nI (by omega) (by omega), nm_e ?_⟩
    rw [nI_clamp (by omega)]; exact h
theorem X_drift_58 {q : Int32 → DD → Prop} {x d : DD} {H : HH} {n w : Nat} {s : Int32} (ok : OKH H) (hT : 0 < nT H) (hn : n ≤ 20) (hw : w < 2) (hk0 : XK x d) (h23 : XH 23 d H) (h : ∀ d', XK x d' → q (driV H s n w) d') : Ev SX MX4_drift 58 [.ref 0, .int s, .int (nI n), .int (nI w), .int s, .int (nI 0), .int (nI 0), .int (nI 0), uJ] [] d (rI q) := by
  have iH : isH 23 := by unfold isH; omega
  refine for_up (W := fun k d' => Ev SX MX4_drift 58 [.ref 0, .int s, .int (nI n), .int (nI w), .int (driZ s k), .int (nI (driM H s k)), .int (nI (driC H s k)), .int (nI k), uJ] [] d' (rI q)) (I := fun k d' => XK x d' ∧ XH 23 d' (driH H s k)) n ?_ ?_ 0 d (Nat.zero_le _) ⟨hk0, h23⟩
  · rintro d' ⟨g1, g2⟩
    have h := h d' g1
    unfold driV at h
    refine bk_X4_drift_58 (br_t (nI_le (Nat.le_refl _) (by omega)) ?_)
    rcases (show w = 0 ∨ w = 1 by omega) with rfl | rfl
    · exact rr_t rfl h
    · exact rr_f (by decide) h
  · rintro k d' hk ⟨g1, g2⟩ ih
    obtain ⟨okc, h10⟩ := driH_ok (s := s) ok k
    have hTc : nT (driH H s k) = nT H := h10 0
    have hmo := driM_le (s := s) ok k
    have hal : driA H s k ≤ 6 := awayS_le (driH_ok ok (k + 1)).1
    have o4 := okc.t4
    obtain ⟨m1, m1b⟩ := mid_n (sd (driZ s k))
    obtain ⟨m2, m2b⟩ := mid_n (sd (sd (driZ s k)))
    have ht := Nat.mod_lt (mid (sd (driZ s k))) (show 0 < nT (driH H s k) by omega)
    have ih := fun d2 a b => ih d2 ⟨a, b⟩
    have okd : OKH (driH H s (k + 1)) := (driH_ok ok (k + 1)).1
    have ez : driZ s (k + 1) = sd (sd (driZ s k)) := rfl
    have ec : driC H s (k + 1) = driC H s k + driB H s k := rfl
    refine bk_X4_drift_58 (br_f (fun c => absurd ((nI_leI (by omega) (by omega)).mp c) (by omega)) (cn_X4_nextSeed (cn_X4_middleBits ⟨?_, nm_e (cn_X4_nextSeed (cn_X4_middleBits ?_))⟩)))
    · rw [g2.nt]; exact fun c => absurd (nI_inj (b := 0) (by omega) (by omega) c) (by omega)
    · rw [mid_eq, mid_eq, g2.nt, show driZ s k * 1103515245 + 12345 = sd (driZ s k) from rfl, show sd (driZ s k) * 1103515245 + 12345 = sd (sd (driZ s k)) from rfl, m1, m2, jrem_nI (by omega) (by omega) (by omega)]
      refine X_spoil iH g2 okc ht m2b ?_
      have hd := g2.put (f := 4) (i := 8 * (mid (sd (driZ s k)) % nT (driH H s k)) + mid (sd (sd (driZ s k))) % driH H s k 1 (mid (sd (driZ s k)) % nT (driH H s k))) (v := mid (sd (sd (driZ s k))) / 10 % 10) (by omega) (fun z => absurd z (by decide))
      generalize he : up d' (23 + 5) (8 * (mid (sd (driZ s k)) % nT (driH H s k)) + mid (sd (sd (driZ s k))) % driH H s k 1 (mid (sd (driZ s k)) % nT (driH H s k))) (nI (mid (sd (sd (driZ s k))) / 10 % 10)) = dn
      have hd : XH 23 dn (driH H s (k + 1)) := by rw [← he]; exact hd
      have kn : XK x dn := fun a ha => by rw [← he, up_ne a (by omega)]; exact g1 a ha
      clear he
      refine X_run (sil := 0) iH hd okd (by omega) fun d2 f e => ?_
      have hd2 := hd.kept (d' := d2) (fun a _ _ => f a (by omega))
      refine X_away iH hd2 okd (play_inv okd) e (nm_e (X_cost iH hd2 okd e ?_))
      have := ih d2 (kn.tr f.k) hd2
      rw [driM_s, ez, ec] at this
      rw [nI_add, nI_1]
      show Ev SX MX4_drift 58 [.ref 0, .int s, .int (nI n), .int (nI w), .int (sd (sd (driZ s k))), .int (if nI (driM H s k) < nI (driA H s k) then nI (driA H s k) else nI (driM H s k)), .int (nI (driC H s k + driB H s k)), .int (nI (k + 1)), uJ] [] d2 (rI q)
      by_cases z : driM H s k < driA H s k
      · rw [if_pos z] at this; rw [if_pos ((nI_ltI (by omega) (by omega)).mpr z)]; exact this
      · rw [if_neg z] at this; rw [if_neg (mt (nI_ltI (by omega) (by omega)).mp z)]; exact this
end
section
theorem MB.dr {m d : DD} {v : Int32} (h : MB m d) : MB m (up d 0 29 v) := by
  obtain ⟨⟨a1, a2, a3⟩, a4⟩ := h
  exact ⟨⟨fun j hj => by rw [up_n (by omega)]; exact a1 j hj, fun j h1 h2 => by rw [up_ne 1 (by omega)]; exact a2 j h1 h2, fun a ha => by rw [up_ne a (by omega)]; exact a3 a ha⟩, fun i hi => by rw [up_ne 1 (by omega)]; exact a4 i hi⟩
theorem MH.dr {d : DD} {H : HH} {v : Int32} (h : MH 0 d H) (ok : OKH H) : MH 0 (up d 0 29 v) H := h.kept (fun j _ _ => up_n (by omega)) (fun j _ _ => by rw [up_ne 1 (by omega)]) ok
theorem M_draws {q : Int32 → DD → Prop} {d : DD} {s : Int32} (e : d 0 29 = s) (h : q (nI (mid (sd s))) (up d 0 29 (sd s))) : Cn SM MX5_draws [.ref 0] d (rI q) := by
  refine cn_X5_draws (nm_e ?_)
  rw [up_s, e, show s * 1103515245 + 12345 = sd s from rfl, (mid_n (sd s)).1]
  exact h
theorem M_drift_56 {q : Int32 → DD → Prop} {m d : DD} {H : HH} {n w : Nat} {s : Int32} (ok : OKH H) (hs : m 0 26 = nI 0) (hT : 0 < nT H) (hn : n ≤ 20) (hw : w < 2) (hk0 : MB m d) (hM0 : MH 0 d H) (hz : d 0 29 = s) (h : ∀ d', MK m d' → q (driV H s n w) d') : Ev SM MX5_drift 56 [.ref 0, .int s, .int (nI n), .int (nI w), .int (nI 0), .int (nI 0), .int (nI 0), uJ, uJ, uJ] [] d (rI q) := by
  refine for_up (W := fun k d' => Ev SM MX5_drift 56 [.ref 0, .int s, .int (nI n), .int (nI w), .int (nI (driM H s k)), .int (nI (driC H s k)), .int (nI k), uJ, uJ, uJ] [] d' (rI q)) (I := fun k d' => MB m d' ∧ MH 0 d' (driH H s k) ∧ d' 0 29 = driZ s k) n ?_ ?_ 0 d (Nat.zero_le _) ⟨hk0, hM0, hz⟩
  · rintro d' ⟨g1, g2, g3⟩
    refine bk_X5_drift_56 (br_t (nI_le (Nat.le_refl _) (by omega)) (M_copies (f := 280) (t := 0) (by omega) (by omega) (by omega) fun d4 u1 u2 u3 => ?_))
    have h := h d4 (g1.fin u1 u2 u3)
    unfold driV at h
    rcases (show w = 0 ∨ w = 1 by omega) with rfl | rfl
    · exact rr_t rfl h
    · exact rr_f (by decide) h
  · rintro k d' hk ⟨g1, g2, g3⟩ ih
    obtain ⟨okc, h10⟩ := driH_ok (s := s) ok k
    have hTc : nT (driH H s k) = nT H := h10 0
    have hmo := driM_le (s := s) ok k
    have hal : driA H s k ≤ 6 := awayS_le (driH_ok ok (k + 1)).1
    have o4 := okc.t4
    have m1b := (mid_n (sd (driZ s k))).2
    have m2b := (mid_n (sd (sd (driZ s k)))).2
    have ht := Nat.mod_lt (mid (sd (driZ s k))) (show 0 < nT (driH H s k) by omega)
    have ih := fun d2 a b c => ih d2 ⟨a, b, c⟩
    have okd : OKH (driH H s (k + 1)) := (driH_ok ok (k + 1)).1
    have ez : driZ s (k + 1) = sd (sd (driZ s k)) := rfl
    have ec : driC H s (k + 1) = driC H s k + driB H s k := rfl
    refine bk_X5_drift_56 (br_f (fun c => absurd ((nI_leI (by omega) (by omega)).mp c) (by omega)) (M_draws g3 ?_))
    have q2 := g2.dr (v := sd (driZ s k)) okc
    have p2 := g1.dr (v := sd (driZ s k))
    rw [q2.nt]
    refine ⟨fun c => absurd (nI_inj (b := 0) (by omega) (by omega) c) (by omega), nm_e (M_draws (s := sd (driZ s k)) up_s ?_)⟩
    have q3 := q2.dr (v := sd (sd (driZ s k))) okc
    have p3 := p2.dr (v := sd (sd (driZ s k)))
    have r3 : up (up d' 0 29 (sd (driZ s k))) 0 29 (sd (sd (driZ s k))) 0 29 = sd (sd (driZ s k)) := up_s
    generalize up (up d' 0 29 (sd (driZ s k))) 0 29 (sd (sd (driZ s k))) = d3 at q3 p3 r3 ⊢
    clear q2 p2
    rw [jrem_nI (by omega) (by omega) (by omega), show (4 : Int32) + nI (mid (sd (driZ s k)) % nT (driH H s k)) = nI (4 + mid (sd (driZ s k)) % nT (driH H s k)) from nI_add 4 _, nI_clamp (by omega), q3.notes ht]
    have ot := okc.tt ht
    have n1 := ot.2.1
    have n8 := ot.2.2.1
    have hm := Nat.mod_lt (mid (sd (sd (driZ s k)))) (show 0 < driH H s k 1 (mid (sd (driZ s k)) % nT (driH H s k)) by omega)
    refine ⟨vp_in_nI (by omega) (by omega), fun c => absurd (nI_inj (b := 0) (by omega) (by omega) c) (by omega), ?_⟩
    rw [jrem_nI (by omega) (by omega) (by omega), show 16 + 8 * nI (mid (sd (driZ s k)) % nT (driH H s k)) + nI (mid (sd (sd (driZ s k))) % driH H s k 1 (mid (sd (driZ s k)) % nT (driH H s k))) = nI (16 + (8 * (mid (sd (driZ s k)) % nT (driH H s k)) + mid (sd (sd (driZ s k))) % driH H s k 1 (mid (sd (driZ s k)) % nT (driH H s k)))) from by rw [li_8, li_16, pk_mul, nI_add, nI_add, Nat.add_assoc], li_10, pk_div (by omega) (by omega) (by omega), jrem_nI (Nat.lt_of_le_of_lt (Nat.div_le_self _ _) (by omega)) (by omega) (by omega)]
    refine ⟨vp_in_nI (by omega) (by omega), nm_e ?_⟩
    rw [nI_clamp (by omega)]
    have hd := q3.put (f := 4) (i := 8 * (mid (sd (driZ s k)) % nT (driH H s k)) + mid (sd (sd (driZ s k))) % driH H s k 1 (mid (sd (driZ s k)) % nT (driH H s k))) (v := mid (sd (sd (driZ s k))) / 10 % 10) okc (by omega) (show _ < 32 by omega) (fun z => absurd z (by decide)) (fun z => absurd z (by decide))
    rw [Nat.zero_add] at hd
    have p4 : MB m (up d3 1 (16 + (8 * (mid (sd (driZ s k)) % nT (driH H s k)) + mid (sd (sd (driZ s k))) % driH H s k 1 (mid (sd (driZ s k)) % nT (driH H s k)))) (nI (mid (sd (sd (driZ s k))) / 10 % 10))) := p3.row (fun a ha => up_ne a ha) (fun j hj => up_n (by omega))
    have r4 : up d3 1 (16 + (8 * (mid (sd (driZ s k)) % nT (driH H s k)) + mid (sd (sd (driZ s k))) % driH H s k 1 (mid (sd (driZ s k)) % nT (driH H s k)))) (nI (mid (sd (sd (driZ s k))) / 10 % 10)) 0 29 = sd (sd (driZ s k)) := by rw [up_ne 0 (by omega)]; exact r3
    have hd : MH 0 (up d3 1 (16 + (8 * (mid (sd (driZ s k)) % nT (driH H s k)) + mid (sd (sd (driZ s k))) % driH H s k 1 (mid (sd (driZ s k)) % nT (driH H s k)))) (nI (mid (sd (sd (driZ s k))) / 10 % 10))) (driH H s (k + 1)) := hd
    generalize up d3 1 (16 + (8 * (mid (sd (driZ s k)) % nT (driH H s k)) + mid (sd (sd (driZ s k))) % driH H s k 1 (mid (sd (driZ s k)) % nT (driH H s k)))) (nI (mid (sd (sd (driZ s k))) / 10 % 10)) = d5 at hd p4 r4 ⊢
    refine M_awayMany (sil := 0) hd okd (by rw [p4.sil]; exact hs) (by omega) fun d6 v1 v2 => ?_
    have := ih d6 (p4.mf v1) (hd.mf okd v1) (by rw [v1 0 (by omega)]; exact r4)
    rw [driM_s, ec] at this
    have c2 : nI (driA H s k) ≤ nI (driM H s k) ↔ driA H s k ≤ driM H s k := nI_leI (by omega) (by omega)
    have cost := fun (q' : Int32 → DD → Prop) (hq : q' (nI (driB H s k)) d6) => M_cost (q := q') (hd.mf okd v1) okd v2 hq
    by_cases z : driM H s k < driA H s k
    · rw [if_pos z] at this
      refine br_f (fun c => absurd (c2.mp c) (by omega)) (cost _ ?_)
      rw [nI_add, nI_1]; exact this
    · rw [if_neg z] at this
      refine br_t (c2.mpr (by omega)) (cost _ ?_)
      rw [nI_add, nI_1]; exact this
theorem two_drift {x m : DD} {H : HH} {p0 p1 p2 : Int32} (hR : RelH H x m) : Two MX4_drift MX5_drift [.ref 0, .int p0, .int p1, .int p2] x m := by
  obtain ⟨ok, hX, hM, hO⟩ := id hR
  have o4 := ok.t4
  have iH : isH 23 := by unfold isH; omega
  rcases ge1_of (n := 20) (v := p1) with ⟨n, hn1, hn, rfl⟩ | hz
  · rcases ge_of (n := 2) (v := p2) (by omega) with ⟨w, hw, rfl⟩ | hz2
    · rcases Nat.eq_zero_or_pos (nT H) with z | z
      · refine two_ask hR (-2) (cn_X4_drift (X_w1_y (n := 20) (by omega) hn1 hn (y1' (X_win_y (n := 1) (by omega) (by omega) (y1 (br_f ?_ ⟨rfl, XK.rf⟩)))))) (cn_X5_drift (M_w1_y (n := 20) (by omega) hn1 hn (y1' (M_win_y (n := 1) (by omega) (by omega) (y1 (rr_t ?_ ⟨rfl, MK.rf⟩))))))
        · rw [hX.nt, z]; decide
        · rw [hM.nt, z]; rfl
      · refine two_ask hR (driV H p0 n w) (cn_X4_drift (X_w1_y (n := 20) (by omega) hn1 hn (y1' (X_win_y (n := 1) (by omega) (by omega) (y1 (br_t ?_ ?_)))))) (cn_X5_drift (M_w1_y (n := 20) (by omega) hn1 hn (y1' (M_win_y (n := 1) (by omega) (by omega) (y1 (rr_f ?_ ?_))))))
        · rw [hX.nt, li_1]; exact (nI_leI (by omega) (by omega)).mpr z
        · exact X_becomeH iH isH1 (by omega) hX ok fun d2 g1 g2 => X_drift_58 ok z hn hw (fun a ha => g1 a (by omega)) g2 fun d3 g3 => ⟨rfl, g3⟩
        · rw [hM.nt]; exact fun c => absurd (nI_inj (b := 0) (by omega) (by omega) c) (by omega)
        · exact M_copies (f := 0) (t := 280) (by omega) (by omega) (by omega) fun d2 g1 g2 g3 => nm_e (M_drift_56 ok hO.sil z hn hw (MB.beg MK.rf g1 g2 g3).dr ((hM.kept (fun j _ _ => by rw [g1 0 (by omega)]) (fun j _ _ => g2 j (by omega)) ok).dr ok) up_s fun d3 g4 => ⟨rfl, g4⟩)
    · exact two_ask hR (-1) (cn_X4_drift (X_w1_y (n := 20) (by omega) hn1 hn (y1' (X_win_n (n := 1) (by omega) hz2 (y0 ⟨rfl, XK.rf⟩))))) (cn_X5_drift (M_w1_y (n := 20) (by omega) hn1 hn (y1' (M_win_n (n := 1) (by omega) hz2 (y0 ⟨rfl, MK.rf⟩)))))
  · exact two_ask hR (-1) (cn_X4_drift (X_w1_n (n := 20) (by omega) hz (y0' ⟨rfl, XK.rf⟩))) (cn_X5_drift (M_w1_n (n := 20) (by omega) hz (y0' ⟨rfl, MK.rf⟩)))
end
section
/-! ===== bribe ===== -/
def outB (H : HH) (P : PL) (st mi k : Nat) : Bool := !(st.testBit k) || decide (P 0 (H 9 k) - 1 ≤ mi)
def allB (H : HH) (P : PL) (st mi : Nat) : Nat → Bool
  | 0 => true
  | k + 1 => allB H P st mi k && outB H P st mi k
theorem allB_no {H : HH} {P : PL} {st mi k : Nat} (h : outB H P st mi k = false) : ∀ n, k < n → allB H P st mi n = false := by
  intro n
  induction n with
  | zero => intro z; exact absurd z (Nat.not_lt_zero k)
  | succ n ih =>
    intro z
    show (allB H P st mi n && outB H P st mi n) = false
    by_cases y : k = n
    · subst y; rw [h, Bool.and_false]
    · rw [ih (by omega), Bool.false_and]
theorem X_allOut {q : Int32 → DD → Prop} {d : DD} {H : HH} {P : PL} {st mi : Nat} (hX : XH 1 d H) (ok : OKH H) (hI : Pinv H 160 P) (hE : XE d H P) (hs : st < 64) (hm : mi < 160) (h : q (b2 (allB H P st mi (nB H))) d) : Cn SX MX1_allOut [.ref 38, .ref 1, .int (nI st), .int (nI mi)] d (rI q) := by
  have o6 := ok.b6
  refine cn_X1_allOut isH1 ?_
  rw [li_0]
  refine for_up (W := fun k d' => Ev SX MX1_allOut 3 [.ref 38, .ref 1, .int (nI st), .int (nI mi), .int (nI k)] [] d' (rI q)) (I := fun k d' => d' = d ∧ allB H P st mi k = true) (nB H) ?_ ?_ 0 d (Nat.zero_le _) ⟨rfl, rfl⟩
  · rintro d' ⟨rfl, e⟩
    refine bk_X1_allOut_3 isH1 (br_t ?_ ?_)
    · rw [hX.nb]; exact nI_le (Nat.le_refl _) (by omega)
    · rw [e] at h; exact h
  · rintro k d' hk ⟨rfl, e⟩ ih
    have es : allB H P st mi (k + 1) = (allB H P st mi k && outB H P st mi k) := rfl
    have b0 := (hI.2.2.1 _ (ok.bb hk)).1
    refine bk_X1_allOut_3 isH1 (br_f ?_ ?_)
    · rw [hX.nb]; exact fun c => absurd ((nI_leI (by omega) (by omega)).mp c) (by omega)
    · rw [bit_of (by omega) (by omega), nI_1]
      cases hb : st.testBit k
      · refine rr_f (by decide) (ih d' ⟨rfl, ?_⟩)
        rw [es, e]; unfold outB; rw [hb]; rfl
      · refine rr_t rfl (X_outAt isH1 hX ok hE hk ?_)
        have c2 : nI (P 0 (H 9 k) - 1) ≤ nI mi ↔ P 0 (H 9 k) - 1 ≤ mi := nI_leI (by omega) (by omega)
        by_cases z : P 0 (H 9 k) - 1 ≤ mi
        · refine br_t (c2.mpr z) (ih d' ⟨rfl, ?_⟩)
          rw [es, e]; unfold outB; rw [hb, decide_eq_true z]; rfl
        · have : outB H P st mi k = false := by unfold outB; rw [hb, decide_eq_false z]; rfl
          rw [allB_no this _ hk] at h
          exact br_f (mt c2.mp z) h
/-- the least of those that do, in [lo, hi): 0 none, else it and 1 -/
def isB (g : Nat → Bool) (lo hi R : Nat) : Prop := (R = 0 ∧ ∀ c, lo ≤ c → c < hi → g c = false) ∨ (R ≠ 0 ∧ lo ≤ R - 1 ∧ R - 1 < hi ∧ g (R - 1) = true ∧ ∀ c, lo ≤ c → c < hi → g c = true → bitsN (R - 1) 6 < bitsN c 6 ∨ (bitsN (R - 1) 6 = bitsN c 6 ∧ R - 1 ≤ c))
theorem isB_uniq {g : Nat → Bool} {lo hi R R' : Nat} (h : isB g lo hi R) (h' : isB g lo hi R') : R = R' := by
  rcases h with ⟨a, b⟩ | ⟨a, b, c, d, e⟩ <;> rcases h' with ⟨a', b'⟩ | ⟨a', b', c', d', e'⟩
  · omega
  · have := b _ b' c'; rw [d'] at this; cases this
  · have := b' _ b c; rw [d] at this; cases this
  · have f1 := e _ b' c' d'
    have f2 := e' _ b c d
    omega
theorem isB_up0 {g : Nat → Bool} {k R : Nat} (h : isB g 0 k R) (hg : g k = false) : isB g 0 (k + 1) R := by
  rcases h with ⟨a, b⟩ | ⟨a, b, c, d, e⟩
  · refine Or.inl ⟨a, fun c _ hc => ?_⟩
    by_cases z : c = k
    · subst z; exact hg
    · exact b c (by omega) (by omega)
  · refine Or.inr ⟨a, b, (by omega), d, fun c' _ hc g' => ?_⟩
    by_cases z : c' = k
    · subst z; rw [hg] at g'; cases g'
    · exact e c' (by omega) (by omega) g'
theorem isB_skip {g : Nat → Bool} {k R : Nat} (h : isB g 0 k R) (hR : R ≠ 0) (hb : bitsN (R - 1) 6 ≤ bitsN k 6) : isB g 0 (k + 1) R := by
  rcases h with ⟨a, b⟩ | ⟨a, b, c, d, e⟩
  · exact absurd a hR
  · refine Or.inr ⟨a, b, (by omega), d, fun c' _ hc g' => ?_⟩
    by_cases z : c' = k
    · subst z; omega
    · exact e c' (by omega) (by omega) g'
theorem isB_up1 {g : Nat → Bool} {k R : Nat} (h : isB g 0 k R) (hg : g k = true) (hb : R = 0 ∨ bitsN k 6 < bitsN (R - 1) 6) : isB g 0 (k + 1) (k + 1) := by
  refine Or.inr ⟨(by omega), (by omega), (by omega), hg, fun c' _ hc g' => ?_⟩
  rw [Nat.add_sub_cancel]
  by_cases z : c' = k
  · subst z; omega
  · rcases h with ⟨a, b⟩ | ⟨a, b, c, d, e⟩
    · have := b c' (by omega) (by omega); rw [g'] at this; cases this
    · have := e c' (by omega) (by omega) g'
      omega
theorem isB_dn0 {g : Nat → Bool} {k N R : Nat} (h : isB g (k + 1) N R) (hg : g k = false ∨ (R ≠ 0 ∧ bitsN (R - 1) 6 < bitsN k 6)) : isB g k N R := by
  rcases h with ⟨a, b⟩ | ⟨a, b, c, d, e⟩
  · refine Or.inl ⟨a, fun c h1 hc => ?_⟩
    by_cases z : c = k
    · subst z
      rcases hg with y | y
      · exact y
      · exact absurd a y.1
    · exact b c (by omega) (by omega)
  · refine Or.inr ⟨a, (by omega), c, d, fun c' h1 hc g' => ?_⟩
    by_cases z : c' = k
    · subst z
      rcases hg with y | y
      · rw [y] at g'; cases g'
      · exact Or.inl y.2
    · exact e c' (by omega) (by omega) g'
theorem isB_dn1 {g : Nat → Bool} {k N R : Nat} (h : isB g (k + 1) N R) (hk : k < N) (hg : g k = true) (hb : R = 0 ∨ bitsN k 6 ≤ bitsN (R - 1) 6) : isB g k N (k + 1) := by
  refine Or.inr ⟨(by omega), (by omega), (by omega), hg, fun c' h1 hc g' => ?_⟩
  rw [Nat.add_sub_cancel]
  by_cases z : c' = k
  · subst z; omega
  · rcases h with ⟨a, b⟩ | ⟨a, b, c, d, e⟩
    · have := b c' (by omega) (by omega); rw [g'] at this; cases this
    · have := e c' (by omega) (by omega) g'
      omega
def briG (H : HH) (st mi : Nat) (c : Nat) : Bool := allB H (playS H c) st mi (nB H)
def briV (R w : Nat) : Int32 := if R = 0 then -4 else if w = 0 then nI (bitsN (R - 1) 6) else nI (R - 1)
theorem X_bribe_59 {q : Int32 → DD → Prop} {x : DD} {H : HH} {st mi w : Nat} (hX : XH 1 x H) (ok : OKH H) (hs : st < 64) (hm : mi < 160) (hw : w < 2) (h : ∀ R d', isB (briG H st mi) 0 (2 ^ nP H) R → XK x d' → q (briV R w) d') : Ev SX MX4_bribe 59 [.ref 0, .int (nI st), .int (nI mi), .int (nI w), .int 1, .int (-1), .int (nI 0)] [] x (rI q) := by
  have o4 := ok.p4
  have hN : 2 ^ nP H ≤ 16 := Nat.le_trans (Nat.pow_le_pow_right (by decide) o4) (by decide)
  suffices hh : ∀ n k R d', k + n = 2 ^ nP H → isB (briG H st mi) 0 k R → XK x d' → Ev SX MX4_bribe 59 [.ref 0, .int (nI st), .int (nI mi), .int (nI w), .int 1, .int (mo1 R), .int (nI k)] [] d' (rI q) from hh (2 ^ nP H) 0 0 x (by omega) (Or.inl ⟨rfl, fun c _ hc => absurd hc (Nat.not_lt_zero c)⟩) XK.rf
  intro n
  induction n with
  | zero =>
    intro k R d' e hB g1
    have e : k = 2 ^ nP H := by omega
    subst e
    have h := h R d' hB g1
    have hR : R ≤ 16 := by rcases hB with ⟨a, _⟩ | ⟨_, _, c, _⟩ <;> omega
    refine bk_X4_bribe_59 (br_t ?_ ?_)
    · rw [(hX.xk g1).np, shl1 (by omega)]; exact nI_le (Nat.le_refl _) (by omega)
    · unfold briV at h
      unfold mo1
      by_cases z : R = 0
      · rw [if_pos z] at h; rw [if_pos z]; exact br_f (by decide) h
      · rw [if_neg z] at h; rw [if_neg z]
        refine br_t (by rw [li_0]; exact nI_le (Nat.zero_le _) (by omega)) ?_
        rcases (show w = 0 ∨ w = 1 by omega) with rfl | rfl
        · exact rr_t rfl (X_bitCount (by omega) h)
        · exact rr_f (by decide) h
  | succ n ih =>
    intro k R d' e hB g1
    have hR : R ≤ 16 := by rcases hB with ⟨a, _⟩ | ⟨_, _, c, _⟩ <;> omega
    have run : (R = 0 ∨ bitsN k 6 < bitsN (R - 1) 6) → Ev SX MX4_bribe 91 [.ref 0, .int (nI st), .int (nI mi), .int (nI w), .int 1, .int (mo1 R), .int (nI k)] [] d' (rI q) := by
      intro hb
      refine bk_X4_bribe_91 (X_run (sil := k) isH1 (hX.xk g1) ok (by omega) fun d2 f e2 => X_allOut (hX.xk (g1.tr f.k)) ok (play_inv ok) e2 hs hm ?_)
      rw [nI_1]
      cases hg : allB H (playS H k) st mi (nB H)
      · exact br_t rfl (ih (k + 1) R d2 (by omega) (isB_up0 hB hg) (g1.tr f.k))
      · refine br_f (by decide) ?_
        have := ih (k + 1) (k + 1) d2 (by omega) (isB_up1 hB hg hb) (g1.tr f.k)
        rw [show mo1 (k + 1) = nI k from if_neg (by omega)] at this
        exact this
    refine bk_X4_bribe_59 (br_f ?_ ?_)
    · rw [(hX.xk g1).np, shl1 (by omega)]; exact fun c => absurd ((nI_leI (by omega) (by omega)).mp c) (by omega)
    · by_cases z : R = 0
      · refine br_t ?_ (run (Or.inl z))
        unfold mo1; rw [if_pos z]; decide
      · have em : mo1 R = nI (R - 1) := if_neg z
        have b6 := bits6 (K := k)
        have b6' := bits6 (K := R - 1)
        refine br_f ?_ (X_bitCount (by omega) ?_)
        · rw [em, li_0]; exact fun c => absurd ((nI_ltI (by omega) (by omega)).mp c) (by omega)
        · have c2 : nI (bitsN (R - 1) 6) ≤ nI (bitsN k 6) ↔ bitsN (R - 1) 6 ≤ bitsN k 6 := nI_leI (by omega) (by omega)
          have run := run
          rw [em] at run ⊢
          refine X_bitCount (by omega) ?_
          rw [nI_1]
          by_cases y : bitsN (R - 1) 6 ≤ bitsN k 6
          · refine br_t (c2.mpr y) ?_
            have := ih (k + 1) R d' (by omega) (isB_skip hB z y) g1
            rw [em] at this; exact this
          · exact br_f (mt c2.mp y) (run (Or.inr (by omega)))
end
section
def MK26 (m d : DD) : Prop := MK m (up d 0 26 (nI 0))
theorem MK26.of {m d : DD} (h : MK m d) (hs : m 0 26 = nI 0) : MK26 m d := by
  refine ⟨fun j hj => ?_, fun j hj => by rw [up_ne 1 (by omega)]; exact h.2.1 j hj, fun a ha => by rw [up_ne a (by omega)]; exact h.2.2 a ha⟩
  rw [up_rd]; split
  · rename_i z; rw [z.2]; exact hs.symm
  · exact h.1 j hj
theorem MK26.st {m d d' : DD} {v : Int32} (h : MK26 m d) (f : MF (up d 0 26 v) d') : MK26 m d' := by
  refine ⟨fun j hj => ?_, fun j hj => ?_, fun a ha => ?_⟩
  · have := h.1 j hj
    rw [← this, up_rd, up_rd]
    split
    · rfl
    · rename_i z; rw [f 0 (by omega), up_n z]
  · have := h.2.1 j hj
    rw [up_ne 1 (by omega)] at this
    rw [up_ne 1 (by omega), f 1 (by omega), up_ne 1 (by omega)]; exact this
  · have := h.2.2 a ha
    rw [up_ne a (by omega)] at this
    rw [up_ne a (by omega), f a (by omega), up_ne a (by omega)]; exact this
theorem MH.mk26 {m d : DD} {H : HH} {v : Int32} (h : MH 0 m H) (ok : OKH H) (k : MK26 m d) : MH 0 (up d 0 26 v) H := h.kept (fun j _ _ => by have := k.1 j (by omega); rw [up_n (by omega)] at this; rw [up_n (by omega)]; exact this) (fun j _ _ => by have := k.2.1 j (by omega); rw [up_ne 1 (by omega)] at this; rw [up_ne 1 (by omega)]; exact this) ok
theorem M_bribe_72 {q : Int32 → DD → Prop} {d : DD} {H : HH} {P : PL} {st mi : Nat} {l3 l4 l5 : Int32} (hM : MH 0 d H) (ok : OKH H) (hI : Pinv H 160 P) (hE : ME d H P) (hs : st < 64) (hm : mi < 160) (h : Ev SM MX5_bribe 72 [.ref 0, .int (nI st), .int (nI mi), .int l3, .int l4, .int l5, .int (b2 (allB H P st mi (nB H))), .int (nI (nB H))] [] d (rI q)) : Ev SM MX5_bribe 72 [.ref 0, .int (nI st), .int (nI mi), .int l3, .int l4, .int l5, .int 1, .int (nI 0)] [] d (rI q) := by
  have o6 := ok.b6
  have o4 := ok.t4
  refine for_up (W := fun k d' => Ev SM MX5_bribe 72 [.ref 0, .int (nI st), .int (nI mi), .int l3, .int l4, .int l5, .int (b2 (allB H P st mi k)), .int (nI k)] [] d' (rI q)) (I := fun k d' => d' = d) (nB H) ?_ ?_ 0 d (Nat.zero_le _) rfl
  · rintro d' rfl
    exact h
  · rintro k d' hk rfl ih
    have hb := ok.bb hk
    have b0 := (hI.2.2.1 _ hb).1
    have := ih d' rfl
    rw [show allB H P st mi (k + 1) = (allB H P st mi k && outB H P st mi k) from rfl] at this
    refine bk_X5_bribe_72 (br_f ?_ ?_)
    · rw [hM.nb]; exact fun c => absurd ((nI_leI (by omega) (by omega)).mp c) (by omega)
    · rw [nI_1]
      cases ha : allB H P st mi k
      · rw [ha, Bool.false_and] at this; exact br_t rfl this
      · rw [ha, Bool.true_and] at this
        unfold outB at this
        refine br_f (by decide) ?_
        rw [bit_of (by omega) (by omega)]
        cases hbt : st.testBit k
        · rw [hbt] at this; exact br_t rfl this
        · rw [hbt, Bool.not_true, Bool.false_or] at this
          refine br_f (by decide) ?_
          rw [show (64 : Int32) + nI k = nI (64 + k) from nI_add 64 k]
          refine ⟨vp_in_nI (by omega) (by omega), ?_⟩
          rw [nI_clamp (by omega), hM.bond hk]
          refine ⟨vp_in_nI (by omega) (by omega), ?_⟩
          rw [nI_clamp (by omega), (hE.1 _ hb).2.1]
          have c2 : nI mi < nI (P 0 (H 9 k) - 1) ↔ mi < P 0 (H 9 k) - 1 := nI_ltI (by omega) (by omega)
          by_cases z : P 0 (H 9 k) - 1 ≤ mi
          · rw [decide_eq_true z] at this; exact br_f (fun c => absurd (c2.mp c) (by omega)) this
          · rw [decide_eq_false z] at this; exact br_t (c2.mpr (by omega)) this
theorem M_bribe_51 {q : Int32 → DD → Prop} {m : DD} {H : HH} {st mi w : Nat} (hM : MH 0 m H) (ok : OKH H) (hs0 : m 0 26 = nI 0) (hs : st < 64) (hm : mi < 160) (hw : w < 2) (h : ∀ R d', isB (briG H st mi) 0 (2 ^ nP H) R → MK m d' → q (briV R w) d') : ∀ k R d', k ≤ 2 ^ nP H → isB (briG H st mi) k (2 ^ nP H) R → MK26 m d' → Ev SM MX5_bribe 51 [.ref 0, .int (nI st), .int (nI mi), .int (nI w), .int (mv R), .int (nI k - 1), uJ, uJ] [] d' (rI q) := by
  have o4 := ok.p4
  have o6 := ok.b6
  have hN : 2 ^ nP H ≤ 16 := Nat.le_trans (Nat.pow_le_pow_right (by decide) o4) (by decide)
  intro k
  induction k with
  | zero =>
    intro R d' _ hB g1
    have h := h R _ hB g1
    have hR : R ≤ 16 := by rcases hB with ⟨a, _⟩ | ⟨_, _, c, _⟩ <;> omega
    refine bk_X5_bribe_51 (br_t m1_lt (nm_e ?_))
    unfold briV at h
    unfold mv
    by_cases z : R = 0
    · rw [if_pos z] at h; rw [if_pos z]; exact br_t rfl h
    · rw [if_neg z] at h; rw [if_neg z]
      refine br_f (ne_m4 (by omega)) ?_
      rcases (show w = 0 ∨ w = 1 by omega) with rfl | rfl
      · exact rr_f (by decide) (M_bitsOf (by omega) h)
      · exact rr_t rfl h
  | succ k ih =>
    intro R d' hk hB g1
    have hR : R ≤ 16 := by rcases hB with ⟨a, _⟩ | ⟨_, _, c, _⟩ <;> omega
    rw [nI_pred]
    refine bk_X5_bribe_51 (br_f ?_ (nm_e (M_playing (sil := k) (hM.mk26 ok g1) ok up_s (by omega) fun d2 f e => ?_)))
    · rw [li_0]; exact fun c => absurd ((nI_ltI (by omega) (by omega)).mp c) (by omega)
    · have hM2 := (hM.mk26 ok g1 (v := nI k)).mf ok f
      have g2 := g1.st f
      refine M_bribe_72 hM2 ok (play_inv ok) e hs hm (bk_X5_bribe_72 (br_t ?_ ?_))
      · rw [hM2.nb]; exact nI_le (Nat.le_refl _) (by omega)
      · rw [nI_m1]
        cases hg : allB H (playS H k) st mi (nB H)
        · exact br_t rfl (ih R d2 (by omega) (isB_dn0 hB (Or.inl hg)) g2)
        · refine br_f (by decide) ?_
          have nx := fun hb => ih (k + 1) d2 (by omega) (isB_dn1 hB (by omega) hg hb) g2
          rw [mv_s] at nx
          by_cases z : R = 0
          · exact br_t (by unfold mv; rw [if_pos z]) (nx (Or.inl z))
          · have em : mv R = nI (R - 1) := if_neg z
            have b6 := bits6 (K := k)
            have b6' := bits6 (K := R - 1)
            have ih0 := fun hb => ih R d2 (by omega) (isB_dn0 hB (Or.inr ⟨z, hb⟩)) g2
            rw [em] at ih0 ⊢
            refine br_f (ne_m4 (by omega)) (M_bitsOf (by omega) (M_bitsOf (by omega) ?_))
            have c2 : nI (bitsN (R - 1) 6) < nI (bitsN k 6) ↔ bitsN (R - 1) 6 < bitsN k 6 := nI_ltI (by omega) (by omega)
            by_cases y : bitsN (R - 1) 6 < bitsN k 6
            · exact br_t (c2.mpr y) (ih0 y)
            · exact br_f (mt c2.mp y) (nx (Or.inr (by omega)))
end
section
theorem isB_ex {g : Nat → Bool} : ∀ k, ∃ R, isB g 0 k R := by
  intro k
  induction k with
  | zero => exact ⟨0, Or.inl ⟨rfl, fun c _ hc => absurd hc (Nat.not_lt_zero c)⟩⟩
  | succ k ih =>
    obtain ⟨R, h⟩ := ih
    cases hg : g k
    · exact ⟨R, isB_up0 h hg⟩
    · by_cases z : R = 0
      · exact ⟨k + 1, isB_up1 h hg (Or.inl z)⟩
      · by_cases y : bitsN (R - 1) 6 ≤ bitsN k 6
        · exact ⟨R, isB_skip h z y⟩
        · exact ⟨k + 1, isB_up1 h hg (Or.inr (by omega))⟩
theorem pow6 {n : Nat} (h : n ≤ 6) : 2 ^ n ≤ 64 := Nat.le_trans (Nat.pow_le_pow_right (by decide) h) (by decide)
theorem two_bribe {x m : DD} {H : HH} {p0 p1 p2 : Int32} (hR : RelH H x m) : Two MX4_bribe MX5_bribe [.ref 0, .int p0, .int p1, .int p2] x m := by
  obtain ⟨ok, hX, hM, hO⟩ := id hR
  have o6 := ok.b6
  have o4 := ok.p4
  have h64 := pow6 o6
  have h16 := pow6 (n := nP H) (by omega)
  have ex : ((1 : Int32) <<< ((x 1 2) &&& 31)) - 1 = nI (2 ^ nB H) - 1 := by rw [hX.nb, shl1 (by omega)]
  have em : ((1 : Int32) <<< ((m 0 3) &&& 31)) - 1 = nI (2 ^ nB H) - 1 := by rw [hM.nb, shl1 (by omega)]
  rcases ge_of (n := 2 ^ nB H) (v := p0) (by omega) with ⟨st, hst, rfl⟩ | hz
  · have gx : ∀ {q : Int32 → DD → Prop}, q 1 x → Cn SX MX4_within [.int (nI st), .int 0, .int (((1 : Int32) <<< ((x 1 2) &&& 31)) - 1)] x (rI q) := fun h => by rw [ex]; exact X_wil (by omega) (fun _ _ _ => h) (fun z => absurd rfl (z st hst))
    have gm : ∀ {q : Int32 → DD → Prop}, q 1 m → Cn SM MX5_in [.long (nI st).toInt64, .long 0, .long (((1 : Int32) <<< ((m 0 3) &&& 31)) - 1).toInt64] m (rI q) := fun h => by rw [em]; exact M_wil (by omega) (fun _ _ _ => h) (fun z => absurd rfl (z st hst))
    rcases ge_of (n := 160) (v := p1) (by omega) with ⟨mi, hmi, rfl⟩ | hz2
    · rcases ge_of (n := 2) (v := p2) (by omega) with ⟨w, hw, rfl⟩ | hz3
      · obtain ⟨R, hB⟩ := isB_ex (g := briG H st mi) (2 ^ nP H)
        refine two_ask hR (briV R w) (cn_X4_bribe (gx (y1' (X_win_y (n := 159) (by omega) (by omega) (y1' (X_win_y (n := 1) (by omega) (by omega) (y1' ?_))))))) (cn_X5_bribe (gm (y1' (M_isMinute_y hmi (y1' (M_win_y (n := 1) (by omega) (by omega) (y1 (nm_e ?_))))))))
        · exact X_bribe_59 hX ok (by omega) hmi hw (fun R' d' h' g => ⟨by rw [isB_uniq hB h'], g⟩)
        · rw [hM.np, shl1 (by omega)]
          exact M_bribe_51 hM ok hO.sil (by omega) hmi hw (fun R' d' h' g => ⟨by rw [isB_uniq hB h'], g⟩) (2 ^ nP H) 0 m (Nat.le_refl _) (Or.inl ⟨rfl, fun c h1 h2 => absurd h1 (by omega)⟩) (MK26.of MK.rf hO.sil)
      · exact two_ask hR (-1) (cn_X4_bribe (gx (y1' (X_win_y (n := 159) (by omega) (by omega) (y1' (X_win_n (n := 1) (by omega) hz3 (y0' ⟨rfl, XK.rf⟩))))))) (cn_X5_bribe (gm (y1' (M_isMinute_y hmi (y1' (M_win_n (n := 1) (by omega) hz3 (y0 ⟨rfl, MK.rf⟩)))))))
    · exact two_ask hR (-1) (cn_X4_bribe (gx (y1' (X_win_n (n := 159) (by omega) hz2 (y0' ⟨rfl, XK.rf⟩))))) (cn_X5_bribe (gm (y1' (M_isMinute_n hz2 (y0' ⟨rfl, MK.rf⟩)))))
  · refine two_ask hR (-1) (cn_X4_bribe ?_) (cn_X5_bribe ?_)
    · rw [ex]; exact X_wil (by omega) (fun j hj e => absurd e (hz j hj)) (fun _ => y0' ⟨rfl, XK.rf⟩)
    · rw [em]; exact M_wil (by omega) (fun j hj e => absurd e (hz j hj)) (fun _ => y0' ⟨rfl, MK.rf⟩)
end
