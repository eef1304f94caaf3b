/-! ===== a house becomes another ===== -/
theorem hs_sep {b p : Nat} (hb : isH b) (hp : isH p) (h : b ≠ p) : b + 11 ≤ p ∨ p + 11 ≤ b := by unfold isH at hb hp; omega
theorem cpy_lt {f g : Nat → Int32} {n j : Nat} (h : j < n) : va_cpy f g 0 0 n j = f j := by
  show (if 0 ≤ j ∧ j < 0 + n then f (0 + (j - 0)) else g j) = f j
  rw [if_pos ⟨Nat.zero_le _, (by omega)⟩, Nat.zero_add, Nat.sub_zero]
def wr (r : Nat) : Nat := if r = 5 then 32 else if r = 10 then 6 else 4
theorem X_become {q : DD → Prop} {d : DD} {b p : Nat} (Hb : isH b) (Hp : isH p) (hne : b ≠ p) (h : ∀ d', (∀ a, a < b ∨ b + 10 < a → d' a = d a) → (∀ i, i < 3 → d' b i = d p i) → (∀ r i, 1 ≤ r → r ≤ 10 → i < wr r → d' (b + r) i = d (p + r) i) → q d') : Cn SX MX0_become [.ref b, .ref p] d (rV q) := by
  have hs := hs_sep Hb Hp hne
  refine cn_X0_become Hb Hp ?_
  intro d1 e1 d2 e2 d3 e3 d4 e4 d5 e5 d6 e6 d7 e7 d8 e8 d9 e9 d10 e10 d11 e11 d12 e12 d13 e13
  clear Hb Hp
  have k1 : ∀ a, a ≠ b → d1 a = d a := fun a h => by rw [e1, up_ne a (by omega)]
  have s1 : d1 b 0 = d p 0 := by rw [e1, up_s]
  have t1 : ∀ j, j ≠ 0 → d1 b j = d b j := fun j h => by rw [e1, up_n (by omega)]
  have k2 : ∀ a, a ≠ b → d2 a = d1 a := fun a h => by rw [e2, up_ne a (by omega)]
  have s2 : d2 b 1 = d1 p 1 := by rw [e2, up_s]
  have t2 : ∀ j, j ≠ 1 → d2 b j = d1 b j := fun j h => by rw [e2, up_n (by omega)]
  have k3 : ∀ a, a ≠ b → d3 a = d2 a := fun a h => by rw [e3, up_ne a (by omega)]
  have s3 : d3 b 2 = d2 p 2 := by rw [e3, up_s]
  have t3 : ∀ j, j ≠ 2 → d3 b j = d2 b j := fun j h => by rw [e3, up_n (by omega)]
  have k4 : ∀ a, a ≠ b + 1 → d4 a = d3 a := fun a h => by rw [e4, rowset_ne a h]
  have s4 : ∀ j, j < 4 → d4 (b + 1) j = d3 (p + 1) j := fun j h => by rw [e4, rowset_at, cpy_lt h]
  have k5 : ∀ a, a ≠ b + 2 → d5 a = d4 a := fun a h => by rw [e5, rowset_ne a h]
  have s5 : ∀ j, j < 4 → d5 (b + 2) j = d4 (p + 2) j := fun j h => by rw [e5, rowset_at, cpy_lt h]
  have k6 : ∀ a, a ≠ b + 3 → d6 a = d5 a := fun a h => by rw [e6, rowset_ne a h]
  have s6 : ∀ j, j < 4 → d6 (b + 3) j = d5 (p + 3) j := fun j h => by rw [e6, rowset_at, cpy_lt h]
  have k7 : ∀ a, a ≠ b + 4 → d7 a = d6 a := fun a h => by rw [e7, rowset_ne a h]
  have s7 : ∀ j, j < 4 → d7 (b + 4) j = d6 (p + 4) j := fun j h => by rw [e7, rowset_at, cpy_lt h]
  have k8 : ∀ a, a ≠ b + 5 → d8 a = d7 a := fun a h => by rw [e8, rowset_ne a h]
  have s8 : ∀ j, j < 32 → d8 (b + 5) j = d7 (p + 5) j := fun j h => by rw [e8, rowset_at, cpy_lt h]
  have k9 : ∀ a, a ≠ b + 6 → d9 a = d8 a := fun a h => by rw [e9, rowset_ne a h]
  have s9 : ∀ j, j < 4 → d9 (b + 6) j = d8 (p + 6) j := fun j h => by rw [e9, rowset_at, cpy_lt h]
  have k10 : ∀ a, a ≠ b + 7 → d10 a = d9 a := fun a h => by rw [e10, rowset_ne a h]
  have s10 : ∀ j, j < 4 → d10 (b + 7) j = d9 (p + 7) j := fun j h => by rw [e10, rowset_at, cpy_lt h]
  have k11 : ∀ a, a ≠ b + 8 → d11 a = d10 a := fun a h => by rw [e11, rowset_ne a h]
  have s11 : ∀ j, j < 4 → d11 (b + 8) j = d10 (p + 8) j := fun j h => by rw [e11, rowset_at, cpy_lt h]
  have k12 : ∀ a, a ≠ b + 9 → d12 a = d11 a := fun a h => by rw [e12, rowset_ne a h]
  have s12 : ∀ j, j < 4 → d12 (b + 9) j = d11 (p + 9) j := fun j h => by rw [e12, rowset_at, cpy_lt h]
  have k13 : ∀ a, a ≠ b + 10 → d13 a = d12 a := fun a h => by rw [e13, rowset_ne a h]
  have s13 : ∀ j, j < 6 → d13 (b + 10) j = d12 (p + 10) j := fun j h => by rw [e13, rowset_at, cpy_lt h]
  clear e1 e2 e3 e4 e5 e6 e7 e8 e9 e10 e11 e12 e13
  refine h d13 (fun a ha => ?_) (fun i hi => ?_) (fun r i h1 h2 hi => ?_)
  · rw [k13 a (by omega), k12 a (by omega), k11 a (by omega), k10 a (by omega), k9 a (by omega), k8 a (by omega), k7 a (by omega), k6 a (by omega), k5 a (by omega), k4 a (by omega), k3 a (by omega), k2 a (by omega), k1 a (by omega)]
  · rw [k13 b (by omega), k12 b (by omega), k11 b (by omega), k10 b (by omega), k9 b (by omega), k8 b (by omega), k7 b (by omega), k6 b (by omega), k5 b (by omega), k4 b (by omega)]
    rcases (show i = 0 ∨ i = 1 ∨ i = 2 by omega) with rfl | rfl | rfl
    · rw [t3 0 (by omega), t2 0 (by omega), s1]
    · rw [t3 1 (by omega), s2, k1 p (by omega)]
    · rw [s3, k2 p (by omega), k1 p (by omega)]
  · rcases (show r = 1 ∨ r = 2 ∨ r = 3 ∨ r = 4 ∨ r = 5 ∨ r = 6 ∨ r = 7 ∨ r = 8 ∨ r = 9 ∨ r = 10 by omega) with rfl | rfl | rfl | rfl | rfl | rfl | rfl | rfl | rfl | rfl
    · rw [k13 (b + 1) (by omega), k12 (b + 1) (by omega), k11 (b + 1) (by omega), k10 (b + 1) (by omega), k9 (b + 1) (by omega), k8 (b + 1) (by omega), k7 (b + 1) (by omega), k6 (b + 1) (by omega), k5 (b + 1) (by omega), s4 i hi, k3 (p + 1) (by omega), k2 (p + 1) (by omega), k1 (p + 1) (by omega)]
    · rw [k13 (b + 2) (by omega), k12 (b + 2) (by omega), k11 (b + 2) (by omega), k10 (b + 2) (by omega), k9 (b + 2) (by omega), k8 (b + 2) (by omega), k7 (b + 2) (by omega), k6 (b + 2) (by omega), s5 i hi, k4 (p + 2) (by omega), k3 (p + 2) (by omega), k2 (p + 2) (by omega), k1 (p + 2) (by omega)]
    · rw [k13 (b + 3) (by omega), k12 (b + 3) (by omega), k11 (b + 3) (by omega), k10 (b + 3) (by omega), k9 (b + 3) (by omega), k8 (b + 3) (by omega), k7 (b + 3) (by omega), s6 i hi, k5 (p + 3) (by omega), k4 (p + 3) (by omega), k3 (p + 3) (by omega), k2 (p + 3) (by omega), k1 (p + 3) (by omega)]
    · rw [k13 (b + 4) (by omega), k12 (b + 4) (by omega), k11 (b + 4) (by omega), k10 (b + 4) (by omega), k9 (b + 4) (by omega), k8 (b + 4) (by omega), s7 i hi, k6 (p + 4) (by omega), k5 (p + 4) (by omega), k4 (p + 4) (by omega), k3 (p + 4) (by omega), k2 (p + 4) (by omega), k1 (p + 4) (by omega)]
    · rw [k13 (b + 5) (by omega), k12 (b + 5) (by omega), k11 (b + 5) (by omega), k10 (b + 5) (by omega), k9 (b + 5) (by omega), s8 i hi, k7 (p + 5) (by omega), k6 (p + 5) (by omega), k5 (p + 5) (by omega), k4 (p + 5) (by omega), k3 (p + 5) (by omega), k2 (p + 5) (by omega), k1 (p + 5) (by omega)]
    · rw [k13 (b + 6) (by omega), k12 (b + 6) (by omega), k11 (b + 6) (by omega), k10 (b + 6) (by omega), s9 i hi, k8 (p + 6) (by omega), k7 (p + 6) (by omega), k6 (p + 6) (by omega), k5 (p + 6) (by omega), k4 (p + 6) (by omega), k3 (p + 6) (by omega), k2 (p + 6) (by omega), k1 (p + 6) (by omega)]
    · rw [k13 (b + 7) (by omega), k12 (b + 7) (by omega), k11 (b + 7) (by omega), s10 i hi, k9 (p + 7) (by omega), k8 (p + 7) (by omega), k7 (p + 7) (by omega), k6 (p + 7) (by omega), k5 (p + 7) (by omega), k4 (p + 7) (by omega), k3 (p + 7) (by omega), k2 (p + 7) (by omega), k1 (p + 7) (by omega)]
    · rw [k13 (b + 8) (by omega), k12 (b + 8) (by omega), s11 i hi, k10 (p + 8) (by omega), k9 (p + 8) (by omega), k8 (p + 8) (by omega), k7 (p + 8) (by omega), k6 (p + 8) (by omega), k5 (p + 8) (by omega), k4 (p + 8) (by omega), k3 (p + 8) (by omega), k2 (p + 8) (by omega), k1 (p + 8) (by omega)]
    · rw [k13 (b + 9) (by omega), s12 i hi, k11 (p + 9) (by omega), k10 (p + 9) (by omega), k9 (p + 9) (by omega), k8 (p + 9) (by omega), k7 (p + 9) (by omega), k6 (p + 9) (by omega), k5 (p + 9) (by omega), k4 (p + 9) (by omega), k3 (p + 9) (by omega), k2 (p + 9) (by omega), k1 (p + 9) (by omega)]
    · rw [s13 i hi, k12 (p + 10) (by omega), k11 (p + 10) (by omega), k10 (p + 10) (by omega), k9 (p + 10) (by omega), k8 (p + 10) (by omega), k7 (p + 10) (by omega), k6 (p + 10) (by omega), k5 (p + 10) (by omega), k4 (p + 10) (by omega), k3 (p + 10) (by omega), k2 (p + 10) (by omega), k1 (p + 10) (by omega)]
theorem XH.move {d d' : DD} {b p : Nat} {H : HH} (h : XH p d H) (ok : OKH H) (h1 : ∀ i, i < 3 → d' b i = d p i) (h2 : ∀ r i, 1 ≤ r → r ≤ 10 → i < wr r → d' (b + r) i = d (p + r) i) : XH b d' H := by
  obtain ⟨a1, a2, a3, a4, a5, a6⟩ := h
  have o1 := ok.t4; have o2 := ok.p4; have o3 := ok.b6
  refine ⟨by rw [h1 0 (by omega)]; exact a1, by rw [h1 1 (by omega)]; exact a2, by rw [h1 2 (by omega)]; exact a3, fun t ht => ?_, fun p hp => ?_, fun q hq => ?_⟩
  · obtain ⟨b1, b2, b3, b4, b5⟩ := a4 t ht
    have hn := (ok.tt ht).2.2.1
    have g : t < 4 := by omega
    exact ⟨by rw [h2 1 t (by omega) (by omega) g]; exact b1, by rw [h2 2 t (by omega) (by omega) g]; exact b2, by rw [h2 3 t (by omega) (by omega) g]; exact b3, by rw [h2 4 t (by omega) (by omega) g]; exact b4, fun i hi => by rw [h2 5 _ (by omega) (by omega) (show 8 * t + i < 32 by omega)]; exact b5 i hi⟩
  · obtain ⟨b1, b2, b3, b4⟩ := a5 p hp
    have g : p < 4 := by omega
    exact ⟨by rw [h2 6 p (by omega) (by omega) g]; exact b1, by rw [h2 7 p (by omega) (by omega) g]; exact b2, by rw [h2 8 p (by omega) (by omega) g]; exact b3, by rw [h2 9 p (by omega) (by omega) g]; exact b4⟩
  · rw [h2 10 q (by omega) (by omega) (show q < 6 by omega)]; exact a6 q hq
/-- the class's house b becomes the house p -/
theorem X_becomeH {q : DD → Prop} {d : DD} {b p : Nat} {H : HH} (Hb : isH b) (Hp : isH p) (hne : b ≠ p) (hX : XH p d H) (ok : OKH H) (h : ∀ d', (∀ a, a < b ∨ b + 10 < a → d' a = d a) → XH b d' H → q d') : Cn SX MX0_become [.ref b, .ref p] d (rV q) := X_become Hb Hp hne fun d' g1 g2 g3 => h d' g1 (hX.move ok g2 g3)
theorem M_copies {q : DD → Prop} {d : DD} {f t : Nat} (hf : f ≤ 280) (ht : t ≤ 280) (hs : f + 70 ≤ t ∨ t + 70 ≤ f) (h : ∀ d', (∀ a, a ≠ 1 → d' a = d a) → (∀ j, j < t ∨ t + 70 ≤ j → d' 1 j = d 1 j) → (∀ i, i < 70 → d' 1 (t + i) = d 1 (f + i)) → q d') : Cn SM MX5_copies [.ref 0, .int (nI f), .int (nI t)] d (rV q) := by
  refine cn_X5_copies ?_
  rw [li_0]
  refine for_up (W := fun k d' => Ev SM MX5_copies 2 [.ref 0, .int (nI f), .int (nI t), .int (nI k)] [] d' (rV q)) (I := fun k d' => (∀ a, a ≠ 1 → d' a = d a) ∧ (∀ j, j < t ∨ t + 70 ≤ j → d' 1 j = d 1 j) ∧ ∀ i, i < k → d' 1 (t + i) = d 1 (f + i)) 70 ?_ ?_ 0 d (Nat.zero_le _) ⟨fun _ _ => rfl, fun _ _ => rfl, fun i hi => absurd hi (Nat.not_lt_zero i)⟩
  · rintro d' ⟨b1, b2, b3⟩
    exact bk_X5_copies_2 ⟨fun _ => h d' b1 b2 b3, fun c => absurd (show (70 : Int32) ≤ nI 70 from by decide) c⟩
  · rintro k d' hk ⟨b1, b2, b3⟩ ih
    refine bk_X5_copies_2 ⟨fun c => ?_, fun _ => ?_⟩
    · rw [li_70] at c; exact absurd ((nI_leI (by omega) (by omega)).mp c) (by omega)
    · rw [nI_add, nI_add, nI_1]
      refine ⟨vp_in_nI (by omega) (by omega), vp_in_nI (by omega) (by omega), nm_e ?_⟩
      rw [nI_clamp (by omega), nI_clamp (by omega)]
      refine ih _ ⟨fun a ha => by rw [up_ne a ha]; exact b1 a ha, fun j hj => by rw [up_n (by omega)]; exact b2 j hj, fun i hi => ?_⟩
      rw [up_rd]
      by_cases z : i = k
      · subst z; rw [if_pos ⟨rfl, rfl⟩, b2 _ (by omega)]
      · rw [if_neg (by omega)]; exact b3 i (by omega)
theorem MH.move {f t : Nat} {d d' : DD} {H : HH} (h : MH f d H) (ok : OKH H) (h1 : ∀ a, a ≠ 1 → d' a = d a) (h2 : ∀ i, i < 70 → d' 1 (t + i) = d 1 (f + i)) : MH t d' H := by
  obtain ⟨a1, a2, a3, a4, a5, a6⟩ := h
  have o1 := ok.t4; have o2 := ok.p4; have o3 := ok.b6
  refine ⟨by rw [h1 0 (by omega)]; exact a1, by rw [h1 0 (by omega)]; exact a2, by rw [h1 0 (by omega)]; exact a3, fun t ht => ?_, fun p hp => ?_, fun q hq => ?_⟩
  · obtain ⟨b1, b2, b3, b4, b5⟩ := a4 t ht
    have hn := (ok.tt ht).2.2.1
    exact ⟨by rw [h2 _ (by omega)]; exact b1, by rw [h2 _ (by omega)]; exact b2, by rw [h2 _ (by omega)]; exact b3, by rw [h2 _ (by omega)]; exact b4, fun i hi => by rw [h2 _ (by omega)]; exact b5 i hi⟩
  · obtain ⟨b1, b2, b3, b4⟩ := a5 p hp
    exact ⟨by rw [h2 _ (by omega)]; exact b1, by rw [h2 _ (by omega)]; exact b2, by rw [h2 _ (by omega)]; exact b3, by rw [h2 _ (by omega)]; exact b4⟩
  · rw [h2 _ (by omega)]; exact a6 q hq
