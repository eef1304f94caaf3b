/-! ===== powers, figures of a code ===== -/
theorem X_power {q : Int32 → DD → Prop} {d : DD} {b e : Nat} (he : e < 2 ^ 20) (h : q (nI (b ^ e)) d) : Cn SX MX4_power [.int (nI b), .int (nI e)] d (rI q) := by
  refine cn_X4_power ?_
  rw [li_1, li_0]
  refine for_up (W := fun k d' => Ev SX MX4_power 4 [.int (nI b), .int (nI e), .int (nI (b ^ k)), .int (nI k)] [] d' (rI q)) (I := fun k d' => d' = d) e ?_ ?_ 0 d (Nat.zero_le _) rfl
  · rintro d' rfl
    exact bk_X4_power_4 ⟨fun _ => h, fun c => absurd (nI_le (Nat.le_refl _) (by omega)) c⟩
  · rintro k d' hk rfl ih
    refine bk_X4_power_4 ⟨fun c => absurd ((nI_leI (by omega) (by omega)).mp c) (by omega), fun _ => ?_⟩
    rw [pk_mul, nI_1]
    exact ih d' rfl
theorem M_powerOf {q : Int32 → DD → Prop} {d : DD} {b e : Nat} (he : e < 2 ^ 20) (h : q (nI (b ^ e)) d) : Cn SM MX5_powerOf [.int (nI b), .int (nI e)] d (rI q) := by
  refine cn_X5_powerOf ?_
  rw [li_1, li_0]
  refine for_up (W := fun k d' => Ev SM MX5_powerOf 4 [.int (nI b), .int (nI e), .int (nI (b ^ k)), .int (nI k)] [] d' (rI q)) (I := fun k d' => d' = d) e ?_ ?_ 0 d (Nat.zero_le _) rfl
  · rintro d' rfl
    exact bk_X5_powerOf_4 ⟨fun _ => h, fun c => absurd (nI_le (Nat.le_refl _) (by omega)) c⟩
  · rintro k d' hk rfl ih
    refine bk_X5_powerOf_4 ⟨fun c => absurd ((nI_leI (by omega) (by omega)).mp c) (by omega), fun _ => ?_⟩
    rw [pk_mul, nI_1]
    exact ih d' rfl
/-- figure i of a code -/
def fig (code base many i : Nat) : Nat := code / base ^ (many - 1 - i) % base
theorem fig_lt {code base many i : Nat} (hb : 0 < base) : fig code base many i < base := Nat.mod_lt _ hb
theorem nI_m1 (n : Nat) : nI n + (-1) = nI n - 1 := by
  rw [show nI n - 1 = nI n + (-1) from by rw [Int32.sub_eq_add_neg]]
theorem m1_lt : (nI 0 - 1 : Int32) < 0 := by decide
theorem div_pow {c b k : Nat} : c / b ^ k / b = c / b ^ (k + 1) := by rw [Nat.div_div_eq_div_mul, Nat.pow_succ]
theorem X_spread {q : DD → Prop} {d : DD} {c np code base many : Nat} (hc : SX[c]? = some (0, np, [])) (hnp : np ≤ 1000) (hm : many ≤ np) (hb : 0 < base) (hb2 : base < 2 ^ 20) (hcd : code < 2 ^ 30) (h : ∀ d', (∀ a, a ≠ c → d' a = d a) → (∀ i, i < many → d' c i = nI (fig code base many i)) → (∀ i, many ≤ i → d' c i = d c i) → q d') : Cn SX MX4_spread [.int (nI code), .int (nI base), .ref c, .int (nI many)] d (rV q) := by
  refine cn_X4_spread hc ?_
  have := for_up (W := fun k d' => Ev SX MX4_spread 8 [.int (nI code), .int (nI base), .ref c, .int (nI many), .int (nI (code / base ^ k)), .int (nI (many - k) - 1)] [] d' (rV q)) (I := fun k d' => (∀ a, a ≠ c → d' a = d a) ∧ (∀ i, many - k ≤ i → i < many → d' c i = nI (fig code base many i)) ∧ ∀ i, many ≤ i → d' c i = d c i) many ?_ ?_ 0 d (Nat.zero_le _) ⟨fun _ _ => rfl, fun i h1 h2 => absurd h1 (by omega), fun _ _ => rfl⟩
  · rw [Nat.pow_zero, Nat.div_one, Nat.sub_zero] at this; exact this
  · rintro d' ⟨g1, g2, g3⟩
    rw [Nat.sub_self]
    exact bk_X4_spread_8 hc (br_t m1_lt (h d' g1 (fun i hi => g2 i (by omega) hi) g3))
  · rintro k d' hk ⟨g1, g2, g3⟩ ih
    have e1 : many - k = (many - k - 1) + 1 := by omega
    have b0 : ¬ nI base = 0 := fun z => absurd (nI_inj (b := 0) (by omega) (by omega) z) (by omega)
    have hcb : code / base ^ k < 2 ^ 31 := Nat.lt_of_le_of_lt (Nat.div_le_self _ _) (by omega)
    rw [e1, nI_pred]
    refine bk_X4_spread_8 hc (br_f ?_ (br_f ?_ ⟨b0, vp_in_nI (by omega) (by omega), nm_e ⟨b0, ?_⟩⟩))
    · rw [li_0]; exact fun x => absurd ((nI_ltI (by omega) (by omega)).mp x) (by omega)
    · rw [li_0]; exact fun x => absurd ((nI_leI (by omega) (by omega)).mp x) (by omega)
    · rw [nI_clamp (by omega), jrem_nI hcb hb (by omega), pk_div hcb hb (by omega), div_pow, nI_m1]
      have := ih (up d' c (many - k - 1) (nI (code / base ^ k % base))) ⟨fun a ha => by rw [up_ne a ha]; exact g1 a ha, fun i h1 h2 => ?_, fun i hi => by rw [up_n (by omega)]; exact g3 i hi⟩
      · rw [show many - (k + 1) = many - k - 1 by omega] at this; exact this
      · rw [up_rd]
        by_cases z : i = many - k - 1
        · rw [if_pos ⟨rfl, z⟩, z]; unfold fig; rw [show many - 1 - (many - k - 1) = k by omega]
        · rw [if_neg (by omega)]; exact g2 i (by omega) h2
theorem M_lays {q : DD → Prop} {d : DD} {o code base many : Nat} (ho : o ≤ 300) (hm : many ≤ 40) (hb : 0 < base) (hb2 : base < 2 ^ 20) (hcd : code < 2 ^ 30) (h : ∀ d', (∀ a, a ≠ 1 → d' a = d a) → (∀ i, i < many → d' 1 (o + i) = nI (fig code base many i)) → (∀ j, j < o ∨ o + many ≤ j → d' 1 j = d 1 j) → q d') : Cn SM MX5_laysFigures [.ref 0, .int (nI code), .int (nI base), .int (nI o), .int (nI many)] d (rV q) := by
  refine cn_X5_laysFigures ?_
  have := for_up (W := fun k d' => Ev SM MX5_laysFigures 9 [.ref 0, .int (nI code), .int (nI base), .int (nI o), .int (nI many), .int (nI (code / base ^ k)), .int (nI (many - k) - 1)] [] d' (rV q)) (I := fun k d' => (∀ a, a ≠ 1 → d' a = d a) ∧ (∀ i, many - k ≤ i → i < many → d' 1 (o + i) = nI (fig code base many i)) ∧ ∀ j, j < o ∨ o + many ≤ j → d' 1 j = d 1 j) many ?_ ?_ 0 d (Nat.zero_le _) ⟨fun _ _ => rfl, fun i h1 h2 => absurd h1 (by omega), fun _ _ => rfl⟩
  · rw [Nat.pow_zero, Nat.div_one, Nat.sub_zero] at this; exact this
  · rintro d' ⟨g1, g2, g3⟩
    rw [Nat.sub_self]
    exact bk_X5_laysFigures_9 (br_t m1_lt (h d' g1 (fun i hi => g2 i (by omega) hi) g3))
  · rintro k d' hk ⟨g1, g2, g3⟩ ih
    have e1 : many - k = (many - k - 1) + 1 := by omega
    have b0 : ¬ nI base = 0 := fun z => absurd (nI_inj (b := 0) (by omega) (by omega) z) (by omega)
    have hcb : code / base ^ k < 2 ^ 31 := Nat.lt_of_le_of_lt (Nat.div_le_self _ _) (by omega)
    rw [e1, nI_pred]
    refine bk_X5_laysFigures_9 (br_f ?_ ⟨b0, ?_⟩)
    · rw [li_0]; exact fun x => absurd ((nI_ltI (by omega) (by omega)).mp x) (by omega)
    · rw [nI_add]
      refine ⟨vp_in_nI (by omega) (by omega), nm_e ⟨b0, ?_⟩⟩
      rw [nI_clamp (by omega), jrem_nI hcb hb (by omega), pk_div hcb hb (by omega), div_pow, nI_m1]
      have := ih (up d' 1 (o + (many - k - 1)) (nI (code / base ^ k % base))) ⟨fun a ha => by rw [up_ne a ha]; exact g1 a ha, fun i h1 h2 => ?_, fun j hj => by rw [up_n (by omega)]; exact g3 j hj⟩
      · rw [show many - (k + 1) = many - k - 1 by omega] at this; exact this
      · rw [up_rd]
        by_cases z : i = many - k - 1
        · rw [if_pos ⟨rfl, by rw [z]⟩, z]; unfold fig; rw [show many - 1 - (many - k - 1) = k by omega]
        · rw [if_neg (by omega)]; exact g2 i (by omega) h2
/-- the house with a field's row from a code -/
def spr (H : HH) (f base many code : Nat) : HH := fun g j => if g = f ∧ j < many then fig code base many j else H g j
theorem spr_f {H : HH} {f base many code j : Nat} (h : j < many) : spr H f base many code f j = fig code base many j := if_pos ⟨rfl, h⟩
theorem spr_n {H : HH} {f base many code g j : Nat} (h : ¬ (g = f ∧ j < many)) : spr H f base many code g j = H g j := if_neg h
def like (H H2 : HH) (f many : Nat) : Prop := ∀ g j, ¬ (g = f ∧ j < many) → H2 g j = H g j
theorem spr_like {H : HH} {f base many code : Nat} : like H (spr H f base many code) f many := fun _ _ h => if_neg h
theorem XH.spr8 {b : Nat} {d d' : DD} {H H2 : HH} {base code : Nat} (h : XH b d H2) (hl : like H H2 8 (nP H)) (h1 : ∀ a, a ≠ b + 9 → d' a = d a) (h2 : ∀ i, i < nP H → d' (b + 9) i = nI (fig code base (nP H) i)) : XH b d' (spr H 8 base (nP H) code) := by
  obtain ⟨a1, a2, a3, a4, a5, a6⟩ := h
  have l0 : ∀ j, H2 10 j = H 10 j := fun j => hl 10 j (by omega)
  have l1 : ∀ g j, g ≠ 8 → H2 g j = H g j := fun g j z => hl g j (by omega)
  have s1 : ∀ g j, g ≠ 8 → spr H 8 base (nP H) code g j = H g j := fun g j z => spr_n (by omega)
  have n1 : nT (spr H 8 base (nP H) code) = nT H2 := (s1 10 0 (by omega)).trans (l0 0).symm
  have n2 : nP (spr H 8 base (nP H) code) = nP H2 := (s1 10 1 (by omega)).trans (l0 1).symm
  have n2' : nP H2 = nP H := l0 1
  have n3 : nB (spr H 8 base (nP H) code) = nB H2 := (s1 10 2 (by omega)).trans (l0 2).symm
  refine ⟨by rw [h1 b (by omega), n1]; exact a1, by rw [h1 b (by omega), n2]; exact a2, by rw [h1 b (by omega), n3]; exact a3, fun t ht => ?_, fun p hp => ?_, fun q hq => ?_⟩
  · rw [n1] at ht
    obtain ⟨b1, b2, b3, b4, b5⟩ := a4 t ht
    rw [l1 _ _ (by omega)] at b1 b2 b3 b4
    refine ⟨by rw [h1 _ (by omega), s1 _ _ (by omega)]; exact b1, by rw [h1 _ (by omega), s1 _ _ (by omega)]; exact b2, by rw [h1 _ (by omega), s1 _ _ (by omega)]; exact b3, by rw [h1 _ (by omega), s1 _ _ (by omega)]; exact b4, fun i hi => ?_⟩
    rw [s1 _ _ (by omega)] at hi
    have := b5 i (by rw [l1 _ _ (by omega)]; exact hi)
    rw [l1 _ _ (by omega)] at this
    rw [h1 _ (by omega), s1 _ _ (by omega)]; exact this
  · rw [n2] at hp
    obtain ⟨b1, b2, b3, b4⟩ := a5 p hp
    rw [l1 _ _ (by omega)] at b1 b2 b3
    exact ⟨by rw [h1 _ (by omega), s1 _ _ (by omega)]; exact b1, by rw [h1 _ (by omega), s1 _ _ (by omega)]; exact b2, by rw [h1 _ (by omega), s1 _ _ (by omega)]; exact b3, by rw [h2 p (by omega), spr_f (by omega)]⟩
  · rw [n3] at hq
    have := a6 q hq
    rw [l1 _ _ (by omega)] at this
    rw [h1 _ (by omega), s1 _ _ (by omega)]; exact this
theorem XH.spr3 {b : Nat} {d d' : DD} {H H2 : HH} {base code : Nat} (h : XH b d H2) (hl : like H H2 3 (nT H)) (h1 : ∀ a, a ≠ b + 4 → d' a = d a) (h2 : ∀ i, i < nT H → d' (b + 4) i = nI (fig code base (nT H) i)) : XH b d' (spr H 3 base (nT H) code) := by
  obtain ⟨a1, a2, a3, a4, a5, a6⟩ := h
  have l0 : ∀ j, H2 10 j = H 10 j := fun j => hl 10 j (by omega)
  have l1 : ∀ g j, g ≠ 3 → H2 g j = H g j := fun g j z => hl g j (by omega)
  have s1 : ∀ g j, g ≠ 3 → spr H 3 base (nT H) code g j = H g j := fun g j z => spr_n (by omega)
  have n1 : nT (spr H 3 base (nT H) code) = nT H2 := (s1 10 0 (by omega)).trans (l0 0).symm
  have n1' : nT H2 = nT H := l0 0
  have n2 : nP (spr H 3 base (nT H) code) = nP H2 := (s1 10 1 (by omega)).trans (l0 1).symm
  have n3 : nB (spr H 3 base (nT H) code) = nB H2 := (s1 10 2 (by omega)).trans (l0 2).symm
  refine ⟨by rw [h1 b (by omega), n1]; exact a1, by rw [h1 b (by omega), n2]; exact a2, by rw [h1 b (by omega), n3]; exact a3, fun t ht => ?_, fun p hp => ?_, fun q hq => ?_⟩
  · rw [n1] at ht
    obtain ⟨b1, b2, b3, b4, b5⟩ := a4 t ht
    rw [l1 _ _ (by omega)] at b1 b2 b3
    refine ⟨by rw [h1 _ (by omega), s1 _ _ (by omega)]; exact b1, by rw [h1 _ (by omega), s1 _ _ (by omega)]; exact b2, by rw [h1 _ (by omega), s1 _ _ (by omega)]; exact b3, by rw [h2 t (by omega), spr_f (by omega)], fun i hi => ?_⟩
    rw [s1 _ _ (by omega)] at hi
    have := b5 i (by rw [l1 _ _ (by omega)]; exact hi)
    rw [l1 _ _ (by omega)] at this
    rw [h1 _ (by omega), s1 _ _ (by omega)]; exact this
  · rw [n2] at hp
    obtain ⟨b1, b2, b3, b4⟩ := a5 p hp
    rw [l1 _ _ (by omega)] at b1 b2 b3 b4
    exact ⟨by rw [h1 _ (by omega), s1 _ _ (by omega)]; exact b1, by rw [h1 _ (by omega), s1 _ _ (by omega)]; exact b2, by rw [h1 _ (by omega), s1 _ _ (by omega)]; exact b3, by rw [h1 _ (by omega), s1 _ _ (by omega)]; exact b4⟩
  · rw [n3] at hq
    have := a6 q hq
    rw [l1 _ _ (by omega)] at this
    rw [h1 _ (by omega), s1 _ _ (by omega)]; exact this
