/-! ===== best, apart: the figures are laid ===== -/
theorem MH.spr8 {d d' : DD} {H H2 : HH} {base code : Nat} (h : MH 0 d H2) (ok : OKH H) (hl : like H H2 8 (nP H)) (h0 : ∀ a, a ≠ 1 → d' a = d a) (h1 : ∀ j, j < 60 ∨ 60 + nP H ≤ j → d' 1 j = d 1 j) (h2 : ∀ i, i < nP H → d' 1 (60 + i) = nI (fig code base (nP H) i)) : MH 0 d' (spr H 8 base (nP H) code) := by
  obtain ⟨a1, a2, a3, a4, a5, a6⟩ := h
  have o1 := ok.t4; have o2 := ok.p4; have o3 := ok.b6
  have l0 : ∀ j, H2 10 j = H 10 j := fun j => hl 10 j (by omega)
  have l1 : ∀ g j, g ≠ 8 → H2 g j = H g j := fun g j z => hl g j (by omega)
  have s1 : ∀ g j, g ≠ 8 → spr H 8 base (nP H) code g j = H g j := fun g j z => spr_n (by omega)
  have n1 : nT (spr H 8 base (nP H) code) = nT H2 := (s1 10 0 (by omega)).trans (l0 0).symm
  have n1' : nT H2 = nT H := l0 0
  have n2 : nP (spr H 8 base (nP H) code) = nP H2 := (s1 10 1 (by omega)).trans (l0 1).symm
  have n2' : nP H2 = nP H := l0 1
  have n3 : nB (spr H 8 base (nP H) code) = nB H2 := (s1 10 2 (by omega)).trans (l0 2).symm
  have n3' : nB H2 = nB H := l0 2
  refine ⟨by rw [h0 0 (by omega), n1]; exact a1, by rw [h0 0 (by omega), n2]; exact a2, by rw [h0 0 (by omega), n3]; exact a3, fun t ht => ?_, fun p hp => ?_, fun q hq => ?_⟩
  · rw [n1] at ht
    have hn := (ok.tt (t := t) (by omega)).2.2.1
    obtain ⟨b1, b2, b3, b4, b5⟩ := a4 t ht
    rw [l1 _ _ (by omega)] at b1 b2 b3 b4
    refine ⟨by rw [h1 _ (by omega), s1 _ _ (by omega)]; exact b1, by rw [h1 _ (by omega), s1 _ _ (by omega)]; exact b2, by rw [h1 _ (by omega), s1 _ _ (by omega)]; exact b3, by rw [h1 _ (by omega), s1 _ _ (by omega)]; exact b4, fun i hi => ?_⟩
    rw [s1 _ _ (by omega)] at hi
    have := b5 i (by rw [l1 _ _ (by omega)]; exact hi)
    rw [l1 _ _ (by omega)] at this
    rw [h1 _ (by omega), s1 _ _ (by omega)]; exact this
  · rw [n2] at hp
    obtain ⟨b1, b2, b3, b4⟩ := a5 p hp
    rw [l1 _ _ (by omega)] at b1 b2 b3
    exact ⟨by rw [h1 _ (by omega), s1 _ _ (by omega)]; exact b1, by rw [h1 _ (by omega), s1 _ _ (by omega)]; exact b2, by rw [h1 _ (by omega), s1 _ _ (by omega)]; exact b3, by rw [Nat.zero_add, h2 p (by omega), spr_f (by omega)]⟩
  · rw [n3] at hq
    have := a6 q hq
    rw [l1 _ _ (by omega)] at this
    rw [h1 _ (by omega), s1 _ _ (by omega)]; exact this
theorem MH.spr3 {d d' : DD} {H H2 : HH} {base code : Nat} (h : MH 0 d H2) (ok : OKH H) (hl : like H H2 3 (nT H)) (h0 : ∀ a, a ≠ 1 → d' a = d a) (h1 : ∀ j, j < 12 ∨ 12 + nT H ≤ j → d' 1 j = d 1 j) (h2 : ∀ i, i < nT H → d' 1 (12 + i) = nI (fig code base (nT H) i)) : MH 0 d' (spr H 3 base (nT H) code) := by
  obtain ⟨a1, a2, a3, a4, a5, a6⟩ := h
  have o1 := ok.t4; have o2 := ok.p4; have o3 := ok.b6
  have l0 : ∀ j, H2 10 j = H 10 j := fun j => hl 10 j (by omega)
  have l1 : ∀ g j, g ≠ 3 → H2 g j = H g j := fun g j z => hl g j (by omega)
  have s1 : ∀ g j, g ≠ 3 → spr H 3 base (nT H) code g j = H g j := fun g j z => spr_n (by omega)
  have n1 : nT (spr H 3 base (nT H) code) = nT H2 := (s1 10 0 (by omega)).trans (l0 0).symm
  have n1' : nT H2 = nT H := l0 0
  have n2 : nP (spr H 3 base (nT H) code) = nP H2 := (s1 10 1 (by omega)).trans (l0 1).symm
  have n3 : nB (spr H 3 base (nT H) code) = nB H2 := (s1 10 2 (by omega)).trans (l0 2).symm
  refine ⟨by rw [h0 0 (by omega), n1]; exact a1, by rw [h0 0 (by omega), n2]; exact a2, by rw [h0 0 (by omega), n3]; exact a3, fun t ht => ?_, fun p hp => ?_, fun q hq => ?_⟩
  · rw [n1] at ht
    have hn := (ok.tt (t := t) (by omega)).2.2.1
    obtain ⟨b1, b2, b3, b4, b5⟩ := a4 t ht
    rw [l1 _ _ (by omega)] at b1 b2 b3
    refine ⟨by rw [h1 _ (by omega), s1 _ _ (by omega)]; exact b1, by rw [h1 _ (by omega), s1 _ _ (by omega)]; exact b2, by rw [h1 _ (by omega), s1 _ _ (by omega)]; exact b3, by rw [Nat.zero_add, h2 t (by omega), spr_f (by omega)], fun i hi => ?_⟩
    rw [s1 _ _ (by omega)] at hi
    have := b5 i (by rw [l1 _ _ (by omega)]; exact hi)
    rw [l1 _ _ (by omega)] at this
    rw [h1 _ (by omega), s1 _ _ (by omega)]; exact this
  · rw [n2] at hp
    obtain ⟨b1, b2, b3, b4⟩ := a5 p hp
    rw [l1 _ _ (by omega)] at b1 b2 b3 b4
    exact ⟨by rw [h1 _ (by omega), s1 _ _ (by omega)]; exact b1, by rw [h1 _ (by omega), s1 _ _ (by omega)]; exact b2, by rw [h1 _ (by omega), s1 _ _ (by omega)]; exact b3, by rw [h1 _ (by omega), s1 _ _ (by omega)]; exact b4⟩
  · rw [n3] at hq
    have := a6 q hq
    rw [l1 _ _ (by omega)] at this
    rw [h1 _ (by omega), s1 _ _ (by omega)]; exact this
theorem OKH.spr8 {H : HH} (ok : OKH H) (hT : 0 < nT H) (code : Nat) : OKH (spr H 8 (nT H) (nP H) code) := by
  have s1 : ∀ g j, g ≠ 8 → spr H 8 (nT H) (nP H) code g j = H g j := fun g j z => spr_n (by omega)
  have n1 : nT (spr H 8 (nT H) (nP H) code) = nT H := s1 10 0 (by omega)
  have n2 : nP (spr H 8 (nT H) (nP H) code) = nP H := s1 10 1 (by omega)
  have n3 : nB (spr H 8 (nT H) (nP H) code) = nB H := s1 10 2 (by omega)
  obtain ⟨a1, a2, a3, a4, a5, a6⟩ := ok
  refine ⟨by rw [n1]; exact a1, by rw [n2]; exact a2, by rw [n3]; exact a3, fun t ht => ?_, fun p hp => ?_, fun q hq => ?_⟩
  · rw [n1] at ht; exact a4 t ht
  · rw [n2] at hp
    obtain ⟨b0, b1, b2, b3, b4⟩ := a5 p hp
    refine ⟨b0, b1, b2, b3, ?_⟩
    rw [n1, spr_f hp]; exact fig_lt hT
  · rw [n3] at hq; rw [n1]; exact a6 q hq
theorem OKH.spr3 {H : HH} (ok : OKH H) (code : Nat) : OKH (spr H 3 4 (nT H) code) := by
  have s1 : ∀ g j, g ≠ 3 → spr H 3 4 (nT H) code g j = H g j := fun g j z => spr_n (by omega)
  have n1 : nT (spr H 3 4 (nT H) code) = nT H := s1 10 0 (by omega)
  have n2 : nP (spr H 3 4 (nT H) code) = nP H := s1 10 1 (by omega)
  have n3 : nB (spr H 3 4 (nT H) code) = nB H := s1 10 2 (by omega)
  obtain ⟨a1, a2, a3, a4, a5, a6⟩ := ok
  refine ⟨by rw [n1]; exact a1, by rw [n2]; exact a2, by rw [n3]; exact a3, fun t ht => ?_, fun p hp => ?_, fun q hq => ?_⟩
  · rw [n1] at ht
    obtain ⟨b0, b1, b2, b3, b4, b5, b6⟩ := a4 t ht
    refine ⟨b0, b1, b2, b3, b4, ?_, b6⟩
    rw [spr_f ht]
    have := fig_lt (code := code) (many := nT H) (i := t) (show 0 < 4 by decide)
    omega
  · rw [n2] at hp; exact a5 p hp
  · rw [n3] at hq; rw [n1]; exact a6 q hq
theorem costS_le {H : HH} {P : PL} (ok : OKH H) (hI : Pinv H 160 P) : costS H P ≤ 3564 := by
  have o4 := ok.p4
  have : costS H P ≤ nP H * (99 * 9) := sumN_le (fun i hi => by
    have a := (ok.pp hi)
    have b := hI.2.2.2 i hi
    exact Nat.mul_le_mul (by have := a.2.2.1; omega) a.2.2.2.1)
  omega
def besA (H : HH) (c : Nat) : Nat := awayS (spr H 8 (nT H) (nP H) c) (playS (spr H 8 (nT H) (nP H) c) 0)
def besC (H : HH) (c : Nat) : Nat := costS (spr H 8 (nT H) (nP H) c) (playS (spr H 8 (nT H) (nP H) c) 0)
/-- code, away, cost -/
def besS (H : HH) : Nat → Nat × Nat × Nat := itr (fun c s => if besA H c < s.2.1 ∨ (besA H c = s.2.1 ∧ besC H c < s.2.2) then (c, besA H c, besC H c) else s) (0, 1000000, 1000000)
theorem besS_s (H : HH) (k : Nat) : besS H (k + 1) = if besA H k < (besS H k).2.1 ∨ (besA H k = (besS H k).2.1 ∧ besC H k < (besS H k).2.2) then (k, besA H k, besC H k) else besS H k := rfl
theorem besA_le {H : HH} (ok : OKH H) (hT : 0 < nT H) (c : Nat) : besA H c ≤ 6 := awayS_le (ok.spr8 hT c)
theorem besC_le {H : HH} (ok : OKH H) (hT : 0 < nT H) (c : Nat) : besC H c ≤ 3564 := costS_le (ok.spr8 hT c) (play_inv (ok.spr8 hT c))
theorem besS_le {H : HH} (ok : OKH H) (hT : 0 < nT H) : ∀ k, (besS H k).1 ≤ k ∧ (besS H k).2.1 ≤ 1000000 ∧ (besS H k).2.2 ≤ 1000000 ∧ (k ≠ 0 → (besS H k).2.1 ≤ 6) := by
  intro k
  induction k with
  | zero => exact ⟨Nat.le_refl _, Nat.le_refl _, Nat.le_refl _, fun z => absurd rfl z⟩
  | succ k ih =>
    have h1 := besA_le ok hT k
    have h2 := besC_le ok hT k
    rw [besS_s]
    split
    · exact ⟨Nat.le_succ k, Nat.le_trans h1 (by omega), Nat.le_trans h2 (by omega), fun _ => h1⟩
    · rename_i z
      obtain ⟨i1, i2, i3, i4⟩ := ih
      refine ⟨Nat.le_succ_of_le i1, i2, i3, fun _ => ?_⟩
      by_cases y : k = 0
      · subst y
        exact absurd (Or.inl (show besA H 0 < 1000000 by omega)) z
      · exact i4 y
/-- w: 0, 1, or 10 and a player -/
def besV (H : HH) (w : Nat) : Int32 := if w = 0 then nI (besS H (nT H ^ nP H)).2.1 else if w = 1 then nI (besS H (nT H ^ nP H)).2.2 else nI (fig (besS H (nT H ^ nP H)).1 (nT H) (nP H) (w - 10))
def x1 (k v : Nat) : Int32 := if k = 0 then 1000000 else nI v
theorem codes_le {a b : Nat} (ha : a ≤ 4) (hb : b ≤ 4) (h0 : 0 < a) : 0 < a ^ b ∧ a ^ b ≤ 256 := by
  refine ⟨Nat.pow_pos h0, ?_⟩
  calc a ^ b ≤ 4 ^ b := Nat.pow_le_pow_left ha b
    _ ≤ 4 ^ 4 := Nat.pow_le_pow_right (by decide) hb
    _ = 256 := by decide
