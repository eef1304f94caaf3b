/-! ===== the reference reads lines ===== -/
theorem HI_aB {H : HH} {v h : Nat} (y : HI H h) (hv : v ≤ 3) : HI (aB H v) (max h (v + 1)) := by
  obtain ⟨h1, h2, h3, h4⟩ := y
  have e1 : nP (aB H v) = nP H := by show aB H v 10 1 = _; unfold aB; rw [if_neg (by omega), if_neg (by omega)]
  have e2 : nB (aB H v) = nB H + 1 := by show aB H v 10 2 = _; unfold aB; rw [if_neg (by omega), if_pos ⟨rfl, rfl⟩]
  have e8 : ∀ j, aB H v 8 j = H 8 j := fun j => by unfold aB; rw [if_neg (by omega), if_neg (by omega)]
  have e9 : aB H v 9 (nB H) = v := if_pos ⟨rfl, rfl⟩
  have e9n : ∀ j, j ≠ nB H → aB H v 9 j = H 9 j := fun j hj => by unfold aB; rw [if_neg (by omega), if_neg (by omega)]
  refine ⟨fun p hp => ?_, fun q hq => ?_, (by omega), fun b b1 b2 => ?_⟩
  · rw [e1] at hp; rw [e8]; have := h1 p hp; omega
  · rw [e2] at hq
    by_cases c : q = nB H
    · subst c; rw [e9]; omega
    · rw [e9n q c]; have := h2 q (by omega); omega
  · have g1 := h4 b (fun p hp => by have := b1 p (by rw [e1]; exact hp); rw [e8] at this; exact this) (fun q hq => by have := b2 q (by rw [e2]; omega); rw [e9n q (by omega)] at this; exact this)
    have g2 := b2 (nB H) (by rw [e2]; omega)
    rw [e9] at g2
    omega
theorem HI_aP {H : HH} {s b p v h : Nat} (y : HI H h) (hv : v ≤ 3) : HI (aP H s b p v) (max h (v + 1)) := by
  obtain ⟨h1, h2, h3, h4⟩ := y
  have e1 : nP (aP H s b p v) = nP H + 1 := by show aP H s b p v 10 1 = _; unfold aP; rw [if_neg (by omega), if_neg (by omega), if_neg (by omega), if_neg (by omega), if_pos ⟨rfl, rfl⟩]
  have e2 : nB (aP H s b p v) = nB H := by show aP H s b p v 10 2 = _; unfold aP; rw [if_neg (by omega), if_neg (by omega), if_neg (by omega), if_neg (by omega), if_neg (by omega)]
  have e9 : ∀ j, aP H s b p v 9 j = H 9 j := fun j => by unfold aP; rw [if_neg (by omega), if_neg (by omega), if_neg (by omega), if_neg (by omega), if_neg (by omega)]
  have e8 : aP H s b p v 8 (nP H) = v := by unfold aP; rw [if_neg (by omega), if_neg (by omega), if_neg (by omega), if_pos ⟨rfl, rfl⟩]
  have e8n : ∀ j, j ≠ nP H → aP H s b p v 8 j = H 8 j := fun j hj => by unfold aP; rw [if_neg (by omega), if_neg (by omega), if_neg (by omega), if_neg (by omega), if_neg (by omega)]
  refine ⟨fun q hq => ?_, fun q hq => ?_, (by omega), fun b b1 b2 => ?_⟩
  · rw [e1] at hq
    by_cases c : q = nP H
    · subst c; rw [e8]; omega
    · rw [e8n q c]; have := h1 q (by omega); omega
  · rw [e2] at hq; rw [e9]; have := h2 q hq; omega
  · have g1 := h4 b (fun q hq => by have := b1 q (by rw [e1]; omega); rw [e8n q (by omega)] at this; exact this) (fun q hq => by have := b2 q (by rw [e2]; exact hq); rw [e9] at this; exact this)
    have g2 := b1 (nP H) (by rw [e1]; omega)
    rw [e8] at g2
    omega
theorem HI_aT {H : HH} {k tm sr c h : Nat} {g : Nat → Nat} (y : HI H h) : HI (aT H k tm sr c g) h := by
  obtain ⟨h1, h2, h3, h4⟩ := y
  have e1 : nP (aT H k tm sr c g) = nP H := by show aT H k tm sr c g 10 1 = _; unfold aT; rw [if_neg (by omega), if_neg (by omega), if_neg (by omega), if_neg (by omega), if_neg (by omega), if_neg (by omega)]
  have e2 : nB (aT H k tm sr c g) = nB H := by show aT H k tm sr c g 10 2 = _; unfold aT; rw [if_neg (by omega), if_neg (by omega), if_neg (by omega), if_neg (by omega), if_neg (by omega), if_neg (by omega)]
  have ee : ∀ a j, 5 ≤ a ∧ a ≤ 9 → aT H k tm sr c g a j = H a j := fun a j h => by unfold aT; rw [if_neg (by omega), if_neg (by omega), if_neg (by omega), if_neg (by omega), if_neg (by omega), if_neg (by omega)]
  refine ⟨fun q hq => ?_, fun q hq => ?_, h3, fun b b1 b2 => h4 b (fun q hq => ?_) (fun q hq => ?_)⟩
  · rw [e1] at hq; rw [ee 8 _ (by omega)]; exact h1 q hq
  · rw [e2] at hq; rw [ee 9 _ (by omega)]; exact h2 q hq
  · have := b1 q (by rw [e1]; exact hq); rw [ee 8 _ (by omega)] at this; exact this
  · have := b2 q (by rw [e2]; exact hq); rw [ee 9 _ (by omega)] at this; exact this
theorem Y2_aB {H : HH} {v h h' : Nat} {d d' : DD} (ok : OKw H) (hb : nB H < 6) (y : Y2 d H h) (hf : ∀ j, j ≠ 64 + nB H → d' 2 j = d 2 j) (h1 : d' 0 5 = d 0 5) (h2 : d' 0 6 = d 0 6) (h3 : d' 0 7 = nI (nB H + 1)) (h4 : d' 2 (64 + nB H) = nI v) (h8 : d' 0 8 = nI h' - 1) (hi : HI (aB H v) h') : Y2 d' (aB H v) h' := by
  obtain ⟨a1, a2, a3, a4, a5, a6, a7, a8⟩ := y
  obtain ⟨o1, o2, o3, o4, -⟩ := ok
  have e0 : nT (aB H v) = nT H := by show aB H v 10 0 = _; unfold aB; rw [if_neg (by omega), if_neg (by omega)]
  have e1 : nP (aB H v) = nP H := by show aB H v 10 1 = _; unfold aB; rw [if_neg (by omega), if_neg (by omega)]
  have e2 : nB (aB H v) = nB H + 1 := by show aB H v 10 2 = _; unfold aB; rw [if_neg (by omega), if_pos ⟨rfl, rfl⟩]
  have ee : ∀ a j, a ≤ 8 → aB H v a j = H a j := fun a j h => by unfold aB; rw [if_neg (by omega), if_neg (by omega)]
  refine ⟨by rw [e0, h1]; exact a1, by rw [e1, h2]; exact a2, by rw [e2]; exact h3, fun t ht => ?_, fun p hp => ?_, fun q hq => ?_, h8, hi⟩
  · rw [e0] at ht
    obtain ⟨b1, b2, b3, b4, b5⟩ := a4 t ht
    have h88 := (o4 t ht).2.2.1
    refine ⟨by rw [ee 0 _ (by omega), hf _ (by omega)]; exact b1, by rw [ee 1 _ (by omega), hf _ (by omega)]; exact b2, by rw [ee 2 _ (by omega), hf _ (by omega)]; exact b3, by rw [ee 3 _ (by omega), hf _ (by omega)]; exact b4, fun i hi => ?_⟩
    rw [ee 1 _ (by omega)] at hi
    rw [ee 4 _ (by omega), hf _ (by omega)]; exact b5 i hi
  · rw [e1] at hp
    obtain ⟨b1, b2, b3, b4⟩ := a5 p hp
    exact ⟨by rw [ee 5 _ (by omega), hf _ (by omega)]; exact b1, by rw [ee 6 _ (by omega), hf _ (by omega)]; exact b2, by rw [ee 7 _ (by omega), hf _ (by omega)]; exact b3, by rw [ee 8 _ (by omega), hf _ (by omega)]; exact b4⟩
  · rw [e2] at hq
    by_cases c : q = nB H
    · subst c
      rw [show aB H v 9 (nB H) = v from if_pos ⟨rfl, rfl⟩]; exact h4
    · rw [show aB H v 9 q = H 9 q from by unfold aB; rw [if_neg (by omega), if_neg (by omega)], hf _ (by omega)]
      exact a6 q (by omega)
theorem Y2_aP {H : HH} {s b p w h h' : Nat} {d d' : DD} (ok : OKw H) (hb : nP H < 4) (y : Y2 d H h) (hf : ∀ j, j ≠ 48 + nP H → j ≠ 52 + nP H → j ≠ 56 + nP H → j ≠ 60 + nP H → d' 2 j = d 2 j) (h1 : d' 0 5 = d 0 5) (h2 : d' 0 6 = nI (nP H + 1)) (h3 : d' 0 7 = d 0 7) (g1 : d' 2 (48 + nP H) = nI s) (g2 : d' 2 (52 + nP H) = nI b) (g3 : d' 2 (56 + nP H) = nI p) (g4 : d' 2 (60 + nP H) = nI w) (h8 : d' 0 8 = nI h' - 1) (hi : HI (aP H s b p w) h') : Y2 d' (aP H s b p w) h' := by
  obtain ⟨a1, a2, a3, a4, a5, a6, a7, a8⟩ := y
  obtain ⟨o1, o2, o3, o4, -⟩ := ok
  have e0 : nT (aP H s b p w) = nT H := by show aP H s b p w 10 0 = _; unfold aP; rw [if_neg (by omega), if_neg (by omega), if_neg (by omega), if_neg (by omega), if_neg (by omega)]
  have e1 : nP (aP H s b p w) = nP H + 1 := by show aP H s b p w 10 1 = _; unfold aP; rw [if_neg (by omega), if_neg (by omega), if_neg (by omega), if_neg (by omega), if_pos ⟨rfl, rfl⟩]
  have e2 : nB (aP H s b p w) = nB H := by show aP H s b p w 10 2 = _; unfold aP; rw [if_neg (by omega), if_neg (by omega), if_neg (by omega), if_neg (by omega), if_neg (by omega)]
  have ee : ∀ a j, a ≤ 4 ∨ a = 9 → aP H s b p w a j = H a j := fun a j h => by unfold aP; rw [if_neg (by omega), if_neg (by omega), if_neg (by omega), if_neg (by omega), if_neg (by omega)]
  refine ⟨by rw [e0, h1]; exact a1, by rw [e1]; exact h2, by rw [e2, h3]; exact a3, fun t ht => ?_, fun q hq => ?_, fun q hq => ?_, h8, hi⟩
  · rw [e0] at ht
    obtain ⟨b1, b2, b3, b4, b5⟩ := a4 t ht
    have h88 := (o4 t ht).2.2.1
    refine ⟨by rw [ee 0 _ (by omega), hf _ (by omega) (by omega) (by omega) (by omega)]; exact b1, by rw [ee 1 _ (by omega), hf _ (by omega) (by omega) (by omega) (by omega)]; exact b2, by rw [ee 2 _ (by omega), hf _ (by omega) (by omega) (by omega) (by omega)]; exact b3, by rw [ee 3 _ (by omega), hf _ (by omega) (by omega) (by omega) (by omega)]; exact b4, fun i hi => ?_⟩
    rw [ee 1 _ (by omega)] at hi
    rw [ee 4 _ (by omega), hf _ (by omega) (by omega) (by omega) (by omega)]; exact b5 i hi
  · rw [e1] at hq
    by_cases c : q = nP H
    · subst c
      refine ⟨?_, ?_, ?_, ?_⟩
      · rw [show aP H s b p w 5 (nP H) = s from if_pos ⟨rfl, rfl⟩]; exact g1
      · rw [show aP H s b p w 6 (nP H) = b from by unfold aP; rw [if_neg (by omega), if_pos ⟨rfl, rfl⟩]]; exact g2
      · rw [show aP H s b p w 7 (nP H) = p from by unfold aP; rw [if_neg (by omega), if_neg (by omega), if_pos ⟨rfl, rfl⟩]]; exact g3
      · rw [show aP H s b p w 8 (nP H) = w from by unfold aP; rw [if_neg (by omega), if_neg (by omega), if_neg (by omega), if_pos ⟨rfl, rfl⟩]]; exact g4
    · have ej : ∀ a, a ≤ 9 → aP H s b p w a q = H a q := fun a h => by unfold aP; rw [if_neg (by omega), if_neg (by omega), if_neg (by omega), if_neg (by omega), if_neg (by omega)]
      obtain ⟨b1, b2, b3, b4⟩ := a5 q (by omega)
      exact ⟨by rw [ej 5 (by omega), hf _ (by omega) (by omega) (by omega) (by omega)]; exact b1, by rw [ej 6 (by omega), hf _ (by omega) (by omega) (by omega) (by omega)]; exact b2, by rw [ej 7 (by omega), hf _ (by omega) (by omega) (by omega) (by omega)]; exact b3, by rw [ej 8 (by omega), hf _ (by omega) (by omega) (by omega) (by omega)]; exact b4⟩
  · rw [e2] at hq
    rw [ee 9 _ (by omega), hf _ (by omega) (by omega) (by omega) (by omega)]; exact a6 q hq
theorem Y2_aT {H : HH} {k tm sr c h : Nat} {g : Nat → Nat} {d d' : DD} (ok : OKw H) (hb : nT H < 4) (hc : c ≤ 8) (y : Y2 d H h) (hf : ∀ j, j ≠ nT H → j ≠ 4 + nT H → j ≠ 8 + nT H → j ≠ 12 + nT H → ¬ (16 + 8 * nT H ≤ j ∧ j < 16 + 8 * nT H + 8) → d' 2 j = d 2 j) (h1 : d' 0 5 = nI (nT H + 1)) (h2 : d' 0 6 = d 0 6) (h3 : d' 0 7 = d 0 7) (h8 : d' 0 8 = d 0 8) (g1 : d' 2 (nT H) = nI k) (g2 : d' 2 (4 + nT H) = nI c) (g3 : d' 2 (8 + nT H) = nI tm) (g4 : d' 2 (12 + nT H) = nI sr) (g5 : ∀ j, j < c → d' 2 (16 + (8 * nT H + j)) = nI (g j)) : Y2 d' (aT H k tm sr c g) h := by
  obtain ⟨a1, a2, a3, a4, a5, a6, a7, a8⟩ := y
  obtain ⟨o1, o2, o3, o4, -⟩ := ok
  have e0 : nT (aT H k tm sr c g) = nT H + 1 := by show aT H k tm sr c g 10 0 = _; unfold aT; rw [if_neg (by omega), if_neg (by omega), if_neg (by omega), if_neg (by omega), if_neg (by omega), if_pos ⟨rfl, rfl⟩]
  have e1 : nP (aT H k tm sr c g) = nP H := by show aT H k tm sr c g 10 1 = _; unfold aT; rw [if_neg (by omega), if_neg (by omega), if_neg (by omega), if_neg (by omega), if_neg (by omega), if_neg (by omega)]
  have e2 : nB (aT H k tm sr c g) = nB H := by show aT H k tm sr c g 10 2 = _; unfold aT; rw [if_neg (by omega), if_neg (by omega), if_neg (by omega), if_neg (by omega), if_neg (by omega), if_neg (by omega)]
  have ee : ∀ a j, 5 ≤ a ∧ a ≤ 9 → aT H k tm sr c g a j = H a j := fun a j h => by unfold aT; rw [if_neg (by omega), if_neg (by omega), if_neg (by omega), if_neg (by omega), if_neg (by omega), if_neg (by omega)]
  refine ⟨by rw [e0]; exact h1, by rw [e1, h2]; exact a2, by rw [e2, h3]; exact a3, fun t ht => ?_, fun p hp => ?_, fun q hq => ?_, by rw [h8]; exact a7, HI_aT a8⟩
  · rw [e0] at ht
    by_cases z : t = nT H
    · subst z
      have c1 : aT H k tm sr c g 1 (nT H) = c := by unfold aT; rw [if_neg (by omega), if_pos ⟨rfl, rfl⟩]
      refine ⟨?_, ?_, ?_, ?_, fun i hi => ?_⟩
      · rw [show aT H k tm sr c g 0 (nT H) = k from if_pos ⟨rfl, rfl⟩]; exact g1
      · rw [c1]; exact g2
      · rw [show aT H k tm sr c g 2 (nT H) = tm from by unfold aT; rw [if_neg (by omega), if_neg (by omega), if_pos ⟨rfl, rfl⟩]]; exact g3
      · rw [show aT H k tm sr c g 3 (nT H) = sr from by unfold aT; rw [if_neg (by omega), if_neg (by omega), if_neg (by omega), if_pos ⟨rfl, rfl⟩]]; exact g4
      · rw [c1] at hi
        rw [show aT H k tm sr c g 4 (8 * nT H + i) = g i from by unfold aT; rw [if_neg (by omega), if_neg (by omega), if_neg (by omega), if_neg (by omega), if_pos ⟨rfl, (by omega), (by omega)⟩, Nat.add_sub_cancel_left]]
        exact g5 i hi
    · have ht2 : t < nT H := by omega
      have ej : ∀ a, a ≤ 3 → aT H k tm sr c g a t = H a t := fun a h => by unfold aT; rw [if_neg (by omega), if_neg (by omega), if_neg (by omega), if_neg (by omega), if_neg (by omega), if_neg (by omega)]
      obtain ⟨b1, b2, b3, b4, b5⟩ := a4 t ht2
      have h88 := (o4 t ht2).2.2.1
      refine ⟨by rw [ej 0 (by omega), hf _ (by omega) (by omega) (by omega) (by omega) (by omega)]; exact b1, by rw [ej 1 (by omega), hf _ (by omega) (by omega) (by omega) (by omega) (by omega)]; exact b2, by rw [ej 2 (by omega), hf _ (by omega) (by omega) (by omega) (by omega) (by omega)]; exact b3, by rw [ej 3 (by omega), hf _ (by omega) (by omega) (by omega) (by omega) (by omega)]; exact b4, fun i hi => ?_⟩
      rw [ej 1 (by omega)] at hi
      rw [show aT H k tm sr c g 4 (8 * t + i) = H 4 (8 * t + i) from by unfold aT; rw [if_neg (by omega), if_neg (by omega), if_neg (by omega), if_neg (by omega), if_neg (by omega), if_neg (by omega)], hf _ (by omega) (by omega) (by omega) (by omega) (by omega)]
      exact b5 i hi
  · rw [e1] at hp
    obtain ⟨b1, b2, b3, b4⟩ := a5 p hp
    exact ⟨by rw [ee 5 _ (by omega), hf _ (by omega) (by omega) (by omega) (by omega) (by omega)]; exact b1, by rw [ee 6 _ (by omega), hf _ (by omega) (by omega) (by omega) (by omega) (by omega)]; exact b2, by rw [ee 7 _ (by omega), hf _ (by omega) (by omega) (by omega) (by omega) (by omega)]; exact b3, by rw [ee 8 _ (by omega), hf _ (by omega) (by omega) (by omega) (by omega) (by omega)]; exact b4⟩
  · rw [e2] at hq
    rw [ee 9 _ (by omega), hf _ (by omega) (by omega) (by omega) (by omega) (by omega)]; exact a6 q hq
/-- what the reference has behind a line -/
def PY (f : Nat → Nat) (n : Nat) (m0 : DD) (R : Rl) (d : DD) : Prop := match R with
  | .inl e => YS f n m0 (.inl e) d
  | .inr z => YS f n m0 (.inr z.2) d ∧ ∃ h, Y2 d z.1 h
theorem M_bd {q : DD → Prop} {m0 : DD} {f : Nat → Nat} {n i h0 : Nat} {d : DD} {H : HH} (hS : YS f n m0 (.inr i) d) (hY : Y2 d H h0) (ok : OKw H) (hb : nB H < 6) (h : ∀ d', YS f n m0 (sNum f n 0 3 i) d' → (∀ i', sNum f n 0 3 i = .inr i' → ∃ h, Y2 d' (aB H (tV f n i)) h) → q d') : Cn SM MX5_readMore [.ref 0, .int (nI 5)] d (rV q) := by
  have e7 := hY.2.2.1
  refine cn_X5_readMore (br_t (by decide) (rr_f (by decide) ?_))
  rw [e7]
  refine M_tuneHere hS hY.2.2.2.2.2.2.1 hY.2.2.2.2.2.2.2.2.2.1 (fun v d1 v3 s1 ev f1 f2 f3 => ?_)
  rw [show (64 : Int32) + nI (nB H) = nI (64 + nB H) from nI_add 64 _]
  refine ⟨vp_in_nI (by omega) (by omega), nm_e (nm_e ?_)⟩
  rw [nI_clamp (by omega), up_ne 0 (by omega), f2 7 (by omega) (by omega), e7, nI_1]
  refine h _ ((s1.put YPu.row).put (YPu.cnt (by omega) (by omega))) (fun i' ei => ?_)
  have := ev i i' rfl ei
  subst this
  refine ⟨max h0 (tV f n i + 1), Y2_aB ok hb hY (fun j hj => ?_) ?_ ?_ ?_ ?_ ?_ (HI_aB hY.2.2.2.2.2.2.2 v3)⟩
  · rw [up_ne 2 (by omega), up_n (by omega), f1 2 (by omega)]
  · rw [up_n (by omega), up_ne 0 (by omega), f2 5 (by omega) (by omega)]
  · rw [up_n (by omega), up_ne 0 (by omega), f2 6 (by omega) (by omega)]
  · rw [up_s]
  · rw [up_ne 2 (by omega), up_s]
  · rw [up_n (by omega), up_ne 0 (by omega)]; exact f3
def sP4 (f : Nat → Nat) (n i : Nat) : Sg := sB (sNum f n 0 3) (sB (sNum f n 0 9) (sB (sNum f n 1 99) (sNum f n 0 9 i)))
theorem M_pl {q : DD → Prop} {m0 : DD} {f : Nat → Nat} {n i h0 : Nat} {d : DD} {H : HH} (hS : YS f n m0 (.inr i) d) (hY : Y2 d H h0) (ok : OKw H) (hb : nP H < 4) (h : ∀ d', YS f n m0 (sP4 f n i) d' → (∀ i1 i2 i3 i4, sNum f n 0 9 i = .inr i1 → sNum f n 1 99 i1 = .inr i2 → sNum f n 0 9 i2 = .inr i3 → sNum f n 0 3 i3 = .inr i4 → ∃ h, Y2 d' (aP H (tV f n i) (tV f n i1) (tV f n i2) (tV f n i3)) h) → q d') : Cn SM MX5_readMore [.ref 0, .int (nI 4)] d (rV q) := by
  have e6 := hY.2.1
  refine cn_X5_readMore (br_t (by decide) (rr_t rfl (M_num (lo := 0) (hi := 9) hS (by omega) (by omega) (fun v1 d1 _ s1 ev1 t1 => ?_))))
  rw [e6, show (48 : Int32) + nI (nP H) = nI (48 + nP H) from nI_add 48 _, nI_clamp (by omega)]
  refine ⟨vp_in_nI (by omega) (by omega), nm_e (M_num (lo := 1) (hi := 99) (s1.put YPu.row) (by omega) (by omega) (fun v2 d2 _ s2 ev2 t2 => ?_))⟩
  have g6 : up d1 2 (48 + nP H) (nI v1) 0 6 = nI (nP H) := by rw [up_ne 0 (by omega), t1.2 6 (by omega)]; exact e6
  rw [g6, show (52 : Int32) + nI (nP H) = nI (52 + nP H) from nI_add 52 _, nI_clamp (by omega)]
  refine ⟨vp_in_nI (by omega) (by omega), nm_e (M_num (lo := 0) (hi := 9) (s2.put YPu.row) (by omega) (by omega) (fun v3 d3 _ s3 ev3 t3 => ?_))⟩
  have g7 : up d2 2 (52 + nP H) (nI v2) 0 6 = nI (nP H) := by rw [up_ne 0 (by omega), t2.2 6 (by omega)]; exact g6
  rw [g7, show (56 : Int32) + nI (nP H) = nI (56 + nP H) from nI_add 56 _, nI_clamp (by omega)]
  have g8 : up d3 2 (56 + nP H) (nI v3) 0 6 = nI (nP H) := by rw [up_ne 0 (by omega), t3.2 6 (by omega)]; exact g7
  have h8 : up d3 2 (56 + nP H) (nI v3) 0 8 = nI h0 - 1 := by rw [up_ne 0 (by omega), t3.2 8 (by omega), up_ne 0 (by omega), t2.2 8 (by omega), up_ne 0 (by omega), t1.2 8 (by omega)]; exact hY.2.2.2.2.2.2.1
  refine ⟨vp_in_nI (by omega) (by omega), nm_e (M_tuneHere (s3.put YPu.row) h8 hY.2.2.2.2.2.2.2.2.2.1 (fun v4 d4 w3 s4 ev4 f1 f2 f3 => ?_))⟩
  rw [g8, show (60 : Int32) + nI (nP H) = nI (60 + nP H) from nI_add 60 _, nI_clamp (by omega)]
  refine ⟨vp_in_nI (by omega) (by omega), nm_e (nm_e ?_)⟩
  rw [up_ne 0 (by omega), f2 6 (by omega) (by omega), g8, nI_1]
  refine h _ ((s4.put YPu.row).put (YPu.cnt (by omega) (by omega))) (fun i1 i2 i3 i4 z1 z2 z3 z4 => ?_)
  have w1 := ev1 i i1 rfl z1
  have w2 := ev2 i1 i2 z1 z2
  have w3' := ev3 i2 i3 (by show sB (sNum f n 1 99) (sNum f n 0 9 i) = _; rw [z1]; exact z2) z3
  have w4 := ev4 i3 i4 (by show sB (sNum f n 0 9) (sB (sNum f n 1 99) (sNum f n 0 9 i)) = _; rw [z1]; show sB (sNum f n 0 9) (sNum f n 1 99 i1) = _; rw [z2]; exact z3) z4
  subst w1 w2 w3' w4
  refine ⟨max h0 (tV f n i3 + 1), Y2_aP ok hb hY (fun j j1 j2 j3 j4 => ?_) ?_ ?_ ?_ ?_ ?_ ?_ ?_ ?_ (HI_aP hY.2.2.2.2.2.2.2 w3)⟩
  · rw [up_ne 2 (by omega), up_n (by omega), f1 2 (by omega), up_n (by omega), t3.1 2 (by omega), up_n (by omega), t2.1 2 (by omega), up_n (by omega), t1.1 2 (by omega)]
  · rw [up_n (by omega), up_ne 0 (by omega), f2 5 (by omega) (by omega), up_ne 0 (by omega), t3.2 5 (by omega), up_ne 0 (by omega), t2.2 5 (by omega), up_ne 0 (by omega), t1.2 5 (by omega)]
  · rw [up_s]
  · rw [up_n (by omega), up_ne 0 (by omega), f2 7 (by omega) (by omega), up_ne 0 (by omega), t3.2 7 (by omega), up_ne 0 (by omega), t2.2 7 (by omega), up_ne 0 (by omega), t1.2 7 (by omega)]
  · rw [up_ne 2 (by omega), up_n (by omega), f1 2 (by omega), up_n (by omega), t3.1 2 (by omega), up_n (by omega), t2.1 2 (by omega), up_s]
  · rw [up_ne 2 (by omega), up_n (by omega), f1 2 (by omega), up_n (by omega), t3.1 2 (by omega), up_s]
  · rw [up_ne 2 (by omega), up_n (by omega), f1 2 (by omega), up_s]
  · rw [up_ne 2 (by omega), up_s]
  · rw [up_n (by omega), up_ne 0 (by omega)]; exact f3
def sNt3 (s : Sum (Nat × Nat) (Nat × (Nat → Nat) × Nat)) : Sg := match s with
  | .inl e => .inl e
  | .inr z => .inr z.2.2
/-- what the notes' loop leaves -/
def FY (t : Nat) (d d' : DD) : Prop := (∀ j, ¬ (16 + 8 * t ≤ j ∧ j < 16 + 8 * t + 8) → j ≠ 4 + t → d' 2 j = d 2 j) ∧ (∀ j, 6 ≤ j → j ≤ 8 → d' 0 j = d 0 j)
theorem FY.tr {t : Nat} {a b c : DD} (h : FY t a b) (h2 : FY t b c) : FY t a c := ⟨fun j u v => (h2.1 j u v).trans (h.1 j u v), fun j u v => (h2.2 j u v).trans (h.2 j u v)⟩
theorem FY.of {t : Nat} {d d' : DD} (h : YTf d d') : FY t d d' := ⟨fun j _ _ => by rw [h.1 2 (by omega)], fun j u v => h.2 j (by omega)⟩
/-- the end of the notes' loop -/
theorem M_nt_end {q : DD → Prop} {d : DD} {t c : Nat} (ht : t < 4) (hc : c ≤ 8) (e5 : d 0 5 = nI t) (h : FY t d (up (up d 2 (4 + t) (nI c)) 0 5 (nI (t + 1))) → up (up d 2 (4 + t) (nI c)) 0 5 (nI (t + 1)) 0 5 = nI (t + 1) → up (up d 2 (4 + t) (nI c)) 0 5 (nI (t + 1)) 2 (4 + t) = nI c → (∀ j, j ≠ 4 + t → up (up d 2 (4 + t) (nI c)) 0 5 (nI (t + 1)) 2 j = d 2 j) → YPu d (up (up d 2 (4 + t) (nI c)) 0 5 (nI (t + 1))) → q (up (up d 2 (4 + t) (nI c)) 0 5 (nI (t + 1)))) : vp_in (4 + nI t) 70 ∧ (∀ d2 : DD, d2 = (up d 2 ((4 : Int32) + nI t).toNatClampNeg (nI c)) → (∀ d3 : DD, d3 = (up d2 0 5 ((d2 0 5) + 1)) → q d3)) := by
  rw [show (4 : Int32) + nI t = nI (4 + t) from nI_add 4 _, nI_clamp (by omega)]
  refine ⟨vp_in_nI (by omega) (by omega), nm_e (nm_e ?_)⟩
  rw [up_ne 0 (by omega), e5, nI_1]
  refine h ⟨fun j u v => by rw [up_ne 2 (by omega), up_n (by omega)], fun j u v => by rw [up_n (by omega), up_ne 0 (by omega)]⟩ up_s (by rw [up_ne 2 (by omega), up_s]) (fun j hj => by rw [up_ne 2 (by omega), up_n (by omega)]) ⟨fun a u v => by rw [up_ne a u, up_ne a v], fun j u => by rw [up_n (by omega), up_ne 0 (by omega)]⟩
theorem M_notes_bad {q : DD → Prop} {m0 : DD} {f : Nat → Nat} {n t : Nat} {l1 : Int32} (ht : t < 4) {c : Nat} {d : DD} {e : Nat × Nat} (hc : c ≤ 8) (hS : YS f n m0 (.inl e) d) (e5 : d 0 5 = nI t) (h : ∀ d', YS f n m0 (.inl e) d' → FY t d d' → q d') : Ev SM MX5_readTune 65 [.ref 0, .int l1, .int (nI t), .int (nI c)] [] d (rV q) := by
  have he : YE n e d := hS.2
  exact bk_X5_readTune_65 (rr_f he.nz (M_nt_end ht hc e5 (fun a1 a2 a3 a4 a5 => h _ (hS.put a5) a1)))
theorem M_notes {q : DD → Prop} {m0 : DD} {f : Nat → Nat} {n t : Nat} {l1 : Int32} (ht : t < 4) : ∀ r c i g d, r + c = 9 → 1 ≤ c → c ≤ 8 → YS f n m0 (.inr i) d → d 0 5 = nI t → (∀ j, j < c → d 2 (16 + (8 * t + j)) = nI (g j)) → (∀ d', YS f n m0 (sNt3 (sNt wM f n r c i g)) d' → FY t d d' → (∀ c' g' i', sNt wM f n r c i g = .inr (c', g', i') → d' 0 5 = nI (t + 1) ∧ c' ≤ 8 ∧ d' 2 (4 + t) = nI c' ∧ ∀ j, j < c' → d' 2 (16 + (8 * t + j)) = nI (g' j)) → q d') → Ev SM MX5_readTune 65 [.ref 0, .int l1, .int (nI t), .int (nI c)] [] d (rV q) := by
  have bad : ∀ c d e, c ≤ 8 → YS f n m0 (.inl e) d → d 0 5 = nI t → (∀ d', YS f n m0 (.inl e) d' → FY t d d' → q d') → Ev SM MX5_readTune 65 [.ref 0, .int l1, .int (nI t), .int (nI c)] [] d (rV q) := by
    intro c d e hc hS e5 h
    have he : YE n e d := hS.2
    exact bk_X5_readTune_65 (rr_f he.nz (M_nt_end ht hc e5 (fun a1 a2 a3 a4 a5 => h _ (hS.put a5) a1)))
  intro r
  induction r with
  | zero => intro c i g d h9 h1 h8; omega
  | succ r ih =>
    intro c i g d h9 h1 h8 hS e5 e16 h
    obtain ⟨hB, hi9, hT⟩ := id hS
    have hK := tK_le (f := f) (n := n) (i := i)
    have stop : tK f n i ≠ 2 → vp_in (4 + nI t) 70 ∧ (∀ d2 : DD, d2 = (up d 2 ((4 : Int32) + nI t).toNatClampNeg (nI c)) → (∀ d3 : DD, d3 = (up d2 0 5 ((d2 0 5) + 1)) → q d3)) := by
      intro c2
      have es : sNt wM f n (r + 1) c i g = .inr (c, g, i) := by show (if tK f n i = 2 then _ else _) = _; rw [if_neg c2]
      rw [es] at h
      refine M_nt_end ht h8 e5 (fun a1 a2 a3 a4 a5 => h _ (hS.put a5) a1 (fun c' g' i' e => ?_))
      cases e
      exact ⟨a2, h8, a3, fun j hj => by rw [a4 _ (by omega)]; exact e16 j hj⟩
    refine bk_X5_readTune_65 ?_
    by_cases c4 : tK f n i = 4
    · have hT4 := hT
      unfold YT at hT4; rw [if_pos c4] at hT4
      exact rr_f (by rw [hT4.1]; exact lit_ne (a := 1) (b := 0) (by omega) (by omega) (by omega)) (stop (by omega))
    · have hTn := hT
      unfold YT at hTn; rw [if_neg c4] at hTn
      obtain ⟨t12, t14, t15, t16, t17⟩ := hTn
      have z12 : d 0 12 = 0 := t12
      refine rr_t z12 ?_
      rw [t16]
      by_cases c2 : tK f n i = 2
      · refine rr_t (by rw [c2]; rfl) ?_
        by_cases c8 : c = 8
        · have es : sNt wM f n (r + 1) c i g = .inl (5, tP f n i) := by show (if tK f n i = 2 then _ else _) = _; rw [if_pos c2, if_pos c8]; rfl
          rw [es] at h
          refine rr_t (by rw [c8]; rfl) (M_fails (c := 5) (fun _ => ?_) (fun y => absurd z12 y))
          have htf : YTf d (up (up d 0 12 (nI 5)) 0 13 (d 0 15)) := hB.t5
          exact bad c _ (5, tP f n i) h8 ⟨hB.tf htf, ⟨Nat.le_of_ble_eq_true rfl, Nat.le_of_ble_eq_true rfl, tP_le hi9⟩, by rw [up_n (by omega), up_s], by rw [up_s]; exact t15⟩ (by rw [up_n (by omega), up_n (by omega)]; exact e5) (fun d' s f2 => h d' s ((FY.of htf).tr f2) (fun c' g' i' e => by cases e))
        · have es : sNt wM f n (r + 1) c i g = if tV f n i ≤ 9 then sNt wM f n r (c + 1) (tN f n i) (fun j => if j = c then tV f n i else g j) else .inl (3, tP f n i) := by
            show (if tK f n i = 2 then _ else _) = _
            rw [if_pos c2, if_neg c8]
          rw [es] at h
          have en : sNum f n 0 9 i = if tV f n i ≤ 9 then .inr (tN f n i) else .inl (3, tP f n i) := by
            unfold sNum
            rw [if_neg (by omega), if_pos c2]
            by_cases z : tV f n i ≤ 9
            · rw [if_pos ⟨Nat.zero_le _, z⟩, if_pos z]
            · rw [if_neg (fun y => z y.2), if_neg z]
          refine rr_f (lit_ne (b := 8) (by omega) (by omega) c8) (M_num (lo := 0) (hi := 9) hS (by omega) (by omega) (fun v d1 v9 s1 ev t1 => ?_))
          rw [show ((16 : Int32) + (8 * nI t)) + nI c = nI (16 + (8 * t + c)) from by rw [show (8 : Int32) = nI 8 from rfl, pk_mul, show (16 : Int32) = nI 16 from rfl, nI_add, nI_add, Nat.add_assoc], nI_clamp (by omega), nI_1]
          refine ⟨vp_in_nI (by omega) (by omega), nm_e ?_⟩
          have s1' : YS f n m0 (sNum f n 0 9 i) d1 := s1
          have g5 : up d1 2 (16 + (8 * t + c)) (nI v) 0 5 = nI t := by rw [up_ne 0 (by omega), t1.2 5 (by omega)]; exact e5
          have fr : FY t d (up d1 2 (16 + (8 * t + c)) (nI v)) := ⟨fun j u w => by rw [up_n (by omega), t1.1 2 (by omega)], fun j u w => by rw [up_ne 0 (by omega), t1.2 j (by omega)]⟩
          rw [en] at s1'
          by_cases z : tV f n i ≤ 9
          · rw [if_pos z] at s1' h
            have w1 := ev i _ rfl (by rw [en, if_pos z])
            subst w1
            refine ih (c + 1) (tN f n i) (fun j => if j = c then tV f n i else g j) _ (by omega) (by omega) (by omega) (s1'.put YPu.row) g5 (fun j hj => ?_) (fun d' s f2 ok => h d' s (fr.tr f2) ok)
            by_cases y : j = c
            · rw [y, up_s]; show _ = nI (if c = c then _ else _); rw [if_pos rfl]
            · rw [up_n (by omega), t1.1 2 (by omega), e16 j (by omega)]; show _ = nI (if j = c then _ else _); rw [if_neg y]
          · rw [if_neg z] at s1' h
            exact bad (c + 1) _ _ (by omega) (s1'.put YPu.row) g5 (fun d' s f2 => h d' s (fr.tr f2) (fun c' g' i' e => by cases e))
      · exact rr_f (lit_ne (b := 2) (by omega) (by omega) c2) (stop c2)
