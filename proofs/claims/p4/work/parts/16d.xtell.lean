/-! ===== the class reads lines ===== -/
def aB (H : HH) (v : Nat) : HH := fun a j => if a = 9 ∧ j = nB H then v else if a = 10 ∧ j = 2 then nB H + 1 else H a j
def aP (H : HH) (s b p w : Nat) : HH := fun a j => if a = 5 ∧ j = nP H then s else if a = 6 ∧ j = nP H then b else if a = 7 ∧ j = nP H then p else if a = 8 ∧ j = nP H then w else if a = 10 ∧ j = 1 then nP H + 1 else H a j
def aT (H : HH) (k tm sr c : Nat) (g : Nat → Nat) : HH := fun a j => if a = 0 ∧ j = nT H then k else if a = 1 ∧ j = nT H then c else if a = 2 ∧ j = nT H then tm else if a = 3 ∧ j = nT H then sr else if a = 4 ∧ 8 * nT H ≤ j ∧ j < 8 * nT H + 8 then g (j - 8 * nT H) else if a = 10 ∧ j = 0 then nT H + 1 else H a j
/-- of a tune: not more than 8 notes -/
def O8 (H : HH) : Prop := ∀ t, t < nT H → H 1 t ≤ 8
theorem XH_aB {H : HH} {v : Nat} {d d' : DD} (hX : XH 12 d H) (hf : ∀ a j, 12 ≤ a → a ≤ 22 → ¬ (a = 12 ∧ j = 2) → ¬ (a = 22 ∧ j = nB H) → d' a j = d a j) (h1 : d' 12 2 = nI (nB H + 1)) (h2 : d' 22 (nB H) = nI v) : XH 12 d' (aB H v) := by
  obtain ⟨a1, a2, a3, a4, a5, a6⟩ := hX
  have e0 : nT (aB H v) = nT H := by show aB H v 10 0 = _; unfold aB; rw [if_neg (by omega), if_neg (by omega)]
  have e1 : nP (aB H v) = nP H := by show aB H v 10 1 = _; unfold aB; rw [if_neg (by omega), if_neg (by omega)]
  have e2 : nB (aB H v) = nB H + 1 := by show aB H v 10 2 = _; unfold aB; rw [if_neg (by omega), if_pos ⟨rfl, rfl⟩]
  have ee : ∀ a j, a ≤ 8 → aB H v a j = H a j := fun a j h => by unfold aB; rw [if_neg (by omega), if_neg (by omega)]
  refine ⟨by rw [e0, hf 12 0 (by omega) (by omega) (by omega) (by omega)]; exact a1, by rw [e1, hf 12 1 (by omega) (by omega) (by omega) (by omega)]; exact a2, by rw [e2]; exact h1, fun t ht => ?_, fun p hp => ?_, fun q hq => ?_⟩
  · rw [e0] at ht
    obtain ⟨b1, b2, b3, b4, b5⟩ := a4 t ht
    refine ⟨by rw [ee 0 _ (by omega), hf 13 _ (by omega) (by omega) (by omega) (by omega)]; exact b1, by rw [ee 1 _ (by omega), hf 14 _ (by omega) (by omega) (by omega) (by omega)]; exact b2, by rw [ee 2 _ (by omega), hf 15 _ (by omega) (by omega) (by omega) (by omega)]; exact b3, by rw [ee 3 _ (by omega), hf 16 _ (by omega) (by omega) (by omega) (by omega)]; exact b4, fun i hi => ?_⟩
    rw [ee 1 _ (by omega)] at hi
    rw [ee 4 _ (by omega), hf 17 _ (by omega) (by omega) (by omega) (by omega)]; exact b5 i hi
  · rw [e1] at hp
    obtain ⟨b1, b2, b3, b4⟩ := a5 p hp
    exact ⟨by rw [ee 5 _ (by omega), hf 18 _ (by omega) (by omega) (by omega) (by omega)]; exact b1, by rw [ee 6 _ (by omega), hf 19 _ (by omega) (by omega) (by omega) (by omega)]; exact b2, by rw [ee 7 _ (by omega), hf 20 _ (by omega) (by omega) (by omega) (by omega)]; exact b3, by rw [ee 8 _ (by omega), hf 21 _ (by omega) (by omega) (by omega) (by omega)]; exact b4⟩
  · rw [e2] at hq
    by_cases c : q = nB H
    · subst c
      rw [show aB H v 9 (nB H) = v from if_pos ⟨rfl, rfl⟩]; exact h2
    · rw [show aB H v 9 q = H 9 q from by unfold aB; rw [if_neg (by omega), if_neg (by omega)], hf 22 q (by omega) (by omega) (by omega) (by omega)]
      exact a6 q (by omega)
theorem XH_aP {H : HH} {s b p w : Nat} {d d' : DD} (hX : XH 12 d H) (hf : ∀ a j, 12 ≤ a → a ≤ 22 → ¬ (a = 12 ∧ j = 1) → ¬ (18 ≤ a ∧ a ≤ 21 ∧ j = nP H) → d' a j = d a j) (h1 : d' 12 1 = nI (nP H + 1)) (h2 : d' 18 (nP H) = nI s) (h3 : d' 19 (nP H) = nI b) (h4 : d' 20 (nP H) = nI p) (h5 : d' 21 (nP H) = nI w) : XH 12 d' (aP H s b p w) := by
  obtain ⟨a1, a2, a3, a4, a5, a6⟩ := hX
  have e0 : nT (aP H s b p w) = nT H := by show aP H s b p w 10 0 = _; unfold aP; rw [if_neg (by omega), if_neg (by omega), if_neg (by omega), if_neg (by omega), if_neg (by omega)]
  have e1 : nP (aP H s b p w) = nP H + 1 := by show aP H s b p w 10 1 = _; unfold aP; rw [if_neg (by omega), if_neg (by omega), if_neg (by omega), if_neg (by omega), if_pos ⟨rfl, rfl⟩]
  have e2 : nB (aP H s b p w) = nB H := by show aP H s b p w 10 2 = _; unfold aP; rw [if_neg (by omega), if_neg (by omega), if_neg (by omega), if_neg (by omega), if_neg (by omega)]
  have ee : ∀ a j, a ≤ 4 ∨ a = 9 → aP H s b p w a j = H a j := fun a j h => by unfold aP; rw [if_neg (by omega), if_neg (by omega), if_neg (by omega), if_neg (by omega), if_neg (by omega)]
  refine ⟨by rw [e0, hf 12 0 (by omega) (by omega) (by omega) (by omega)]; exact a1, by rw [e1]; exact h1, by rw [e2, hf 12 2 (by omega) (by omega) (by omega) (by omega)]; exact a3, fun t ht => ?_, fun q hq => ?_, fun q hq => ?_⟩
  · rw [e0] at ht
    obtain ⟨b1, b2, b3, b4, b5⟩ := a4 t ht
    refine ⟨by rw [ee 0 _ (by omega), hf 13 _ (by omega) (by omega) (by omega) (by omega)]; exact b1, by rw [ee 1 _ (by omega), hf 14 _ (by omega) (by omega) (by omega) (by omega)]; exact b2, by rw [ee 2 _ (by omega), hf 15 _ (by omega) (by omega) (by omega) (by omega)]; exact b3, by rw [ee 3 _ (by omega), hf 16 _ (by omega) (by omega) (by omega) (by omega)]; exact b4, fun i hi => ?_⟩
    rw [ee 1 _ (by omega)] at hi
    rw [ee 4 _ (by omega), hf 17 _ (by omega) (by omega) (by omega) (by omega)]; exact b5 i hi
  · rw [e1] at hq
    by_cases c : q = nP H
    · subst c
      refine ⟨?_, ?_, ?_, ?_⟩
      · rw [show aP H s b p w 5 (nP H) = s from if_pos ⟨rfl, rfl⟩]; exact h2
      · rw [show aP H s b p w 6 (nP H) = b from by unfold aP; rw [if_neg (by omega), if_pos ⟨rfl, rfl⟩]]; exact h3
      · rw [show aP H s b p w 7 (nP H) = p from by unfold aP; rw [if_neg (by omega), if_neg (by omega), if_pos ⟨rfl, rfl⟩]]; exact h4
      · rw [show aP H s b p w 8 (nP H) = w from by unfold aP; rw [if_neg (by omega), if_neg (by omega), if_neg (by omega), if_pos ⟨rfl, rfl⟩]]; exact h5
    · have ej : ∀ a, a ≤ 9 → aP H s b p w a q = H a q := fun a h => by unfold aP; rw [if_neg (by omega), if_neg (by omega), if_neg (by omega), if_neg (by omega), if_neg (by omega)]
      obtain ⟨b1, b2, b3, b4⟩ := a5 q (by omega)
      exact ⟨by rw [ej 5 (by omega), hf 18 _ (by omega) (by omega) (by omega) (by omega)]; exact b1, by rw [ej 6 (by omega), hf 19 _ (by omega) (by omega) (by omega) (by omega)]; exact b2, by rw [ej 7 (by omega), hf 20 _ (by omega) (by omega) (by omega) (by omega)]; exact b3, by rw [ej 8 (by omega), hf 21 _ (by omega) (by omega) (by omega) (by omega)]; exact b4⟩
  · rw [e2] at hq
    rw [ee 9 _ (by omega), hf 22 _ (by omega) (by omega) (by omega) (by omega)]; exact a6 q hq
theorem XH_aT {H : HH} {k tm sr c : Nat} {g : Nat → Nat} {d d' : DD} (h8 : O8 H) (hc : c ≤ 8) (hX : XH 12 d H) (hf : ∀ a j, 12 ≤ a → a ≤ 22 → ¬ (a = 12 ∧ j = 0) → ¬ (13 ≤ a ∧ a ≤ 16 ∧ j = nT H) → ¬ (a = 17 ∧ 8 * nT H ≤ j ∧ j < 8 * nT H + 8) → d' a j = d a j) (h1 : d' 12 0 = nI (nT H + 1)) (h2 : d' 13 (nT H) = nI k) (h3 : d' 14 (nT H) = nI c) (h4 : d' 15 (nT H) = nI tm) (h5 : d' 16 (nT H) = nI sr) (h6 : ∀ j, j < c → d' 17 (8 * nT H + j) = nI (g j)) : XH 12 d' (aT H k tm sr c g) := by
  obtain ⟨a1, a2, a3, a4, a5, a6⟩ := hX
  have e0 : nT (aT H k tm sr c g) = nT H + 1 := by show aT H k tm sr c g 10 0 = _; unfold aT; rw [if_neg (by omega), if_neg (by omega), if_neg (by omega), if_neg (by omega), if_neg (by omega), if_pos ⟨rfl, rfl⟩]
  have e1 : nP (aT H k tm sr c g) = nP H := by show aT H k tm sr c g 10 1 = _; unfold aT; rw [if_neg (by omega), if_neg (by omega), if_neg (by omega), if_neg (by omega), if_neg (by omega), if_neg (by omega)]
  have e2 : nB (aT H k tm sr c g) = nB H := by show aT H k tm sr c g 10 2 = _; unfold aT; rw [if_neg (by omega), if_neg (by omega), if_neg (by omega), if_neg (by omega), if_neg (by omega), if_neg (by omega)]
  have ee : ∀ a j, 5 ≤ a ∧ a ≤ 9 → aT H k tm sr c g a j = H a j := fun a j h => by unfold aT; rw [if_neg (by omega), if_neg (by omega), if_neg (by omega), if_neg (by omega), if_neg (by omega), if_neg (by omega)]
  refine ⟨by rw [e0]; exact h1, by rw [e1, hf 12 1 (by omega) (by omega) (by omega) (by omega) (by omega)]; exact a2, by rw [e2, hf 12 2 (by omega) (by omega) (by omega) (by omega) (by omega)]; exact a3, fun t ht => ?_, fun p hp => ?_, fun q hq => ?_⟩
  · rw [e0] at ht
    by_cases z : t = nT H
    · subst z
      have c1 : aT H k tm sr c g 1 (nT H) = c := by unfold aT; rw [if_neg (by omega), if_pos ⟨rfl, rfl⟩]
      refine ⟨?_, ?_, ?_, ?_, fun i hi => ?_⟩
      · rw [show aT H k tm sr c g 0 (nT H) = k from if_pos ⟨rfl, rfl⟩]; exact h2
      · rw [c1]; exact h3
      · rw [show aT H k tm sr c g 2 (nT H) = tm from by unfold aT; rw [if_neg (by omega), if_neg (by omega), if_pos ⟨rfl, rfl⟩]]; exact h4
      · rw [show aT H k tm sr c g 3 (nT H) = sr from by unfold aT; rw [if_neg (by omega), if_neg (by omega), if_neg (by omega), if_pos ⟨rfl, rfl⟩]]; exact h5
      · rw [c1] at hi
        rw [show aT H k tm sr c g 4 (8 * nT H + i) = g i from by unfold aT; rw [if_neg (by omega), if_neg (by omega), if_neg (by omega), if_neg (by omega), if_pos ⟨rfl, (by omega), (by omega)⟩, Nat.add_sub_cancel_left]]
        exact h6 i hi
    · have ht2 : t < nT H := by omega
      have ej : ∀ a, a ≤ 3 → aT H k tm sr c g a t = H a t := fun a h => by unfold aT; rw [if_neg (by omega), if_neg (by omega), if_neg (by omega), if_neg (by omega), if_neg (by omega), if_neg (by omega)]
      obtain ⟨b1, b2, b3, b4, b5⟩ := a4 t ht2
      have h88 := h8 t ht2
      refine ⟨by rw [ej 0 (by omega), hf 13 _ (by omega) (by omega) (by omega) (by omega) (by omega)]; exact b1, by rw [ej 1 (by omega), hf 14 _ (by omega) (by omega) (by omega) (by omega) (by omega)]; exact b2, by rw [ej 2 (by omega), hf 15 _ (by omega) (by omega) (by omega) (by omega) (by omega)]; exact b3, by rw [ej 3 (by omega), hf 16 _ (by omega) (by omega) (by omega) (by omega) (by omega)]; exact b4, fun i hi => ?_⟩
      rw [ej 1 (by omega)] at hi
      rw [show aT H k tm sr c g 4 (8 * t + i) = H 4 (8 * t + i) from by unfold aT; rw [if_neg (by omega), if_neg (by omega), if_neg (by omega), if_neg (by omega), if_neg (by omega), if_neg (by omega)], hf 17 _ (by omega) (by omega) (by omega) (by omega) (by omega)]
      exact b5 i hi
  · rw [e1] at hp
    obtain ⟨b1, b2, b3, b4⟩ := a5 p hp
    exact ⟨by rw [ee 5 _ (by omega), hf 18 _ (by omega) (by omega) (by omega) (by omega) (by omega)]; exact b1, by rw [ee 6 _ (by omega), hf 19 _ (by omega) (by omega) (by omega) (by omega) (by omega)]; exact b2, by rw [ee 7 _ (by omega), hf 20 _ (by omega) (by omega) (by omega) (by omega) (by omega)]; exact b3, by rw [ee 8 _ (by omega), hf 21 _ (by omega) (by omega) (by omega) (by omega) (by omega)]; exact b4⟩
  · rw [e2] at hq
    rw [ee 9 _ (by omega), hf 22 _ (by omega) (by omega) (by omega) (by omega) (by omega)]; exact a6 q hq
theorem isH12 : isH 12 := Or.inr (Or.inl rfl)
/-- bound N ; -/
def sBd (f : Nat → Nat) (n i : Nat) : Sg := sB (sSgn f n) (sNum f n 0 3 i)
theorem X_tellBound {q : DD → Prop} {x0 : DD} {f : Nat → Nat} {n i : Nat} {d : DD} {H : HH} (hS : XS f n x0 (.inr i) d) (hX : XH 12 d H) (hb : nB H < 6) (h : ∀ d', XS f n x0 (sBd f n i) d' → (∀ i', sNum f n 0 3 i = .inr i' → XH 12 d' (aB H (tV f n i))) → q d') : Cn SX MX3_tellBound [.ref 36, .ref 12] d (rV q) := by
  have e3 := hX.nb
  refine cn_X3_tellBound isH12 (br_t (by rw [e3]; exact (nI_ltI (b := 6) (by omega) (by omega)).mpr hb) (nm_e ?_))
  rw [e3, nI_1]
  refine X_next (lo := 0) (hi := 3) (hS.put (fun a ha => up_ne a (by omega))) (by omega) (by omega) (fun v d1 v0 v3 s1 ev f1 => ⟨vp_in_nI (by omega) (by omega), nm_e ?_⟩)
  rw [nI_clamp (by omega)]
  refine X_adv (s1.put (fun a ha => up_ne a (by omega))) (fun d2 s2 f2 => X_sign s2 fun d3 s3 f3 => h d3 s3 fun i' ei => ?_)
  have := ev i i' rfl ei
  subst this
  refine XH_aB hX (fun a j h1 h2 h3 h4 => ?_) ?_ ?_
  · rw [f3 a (by omega), f2 a (by omega), up_n (by omega), f1 a (by omega), up_n (by omega)]
  · rw [f3 12 (by omega), f2 12 (by omega), up_n (by omega), f1 12 (by omega), up_s]
  · rw [f3 22 (by omega), f2 22 (by omega), up_s]
/-- player N N N N ; -/
def sPl (f : Nat → Nat) (n i : Nat) : Sg := sB (sSgn f n) (sB (sNum f n 0 3) (sB (sNum f n 0 9) (sB (sNum f n 1 99) (sNum f n 0 9 i))))
theorem X_tellPlayer {q : DD → Prop} {x0 : DD} {f : Nat → Nat} {n i : Nat} {d : DD} {H : HH} (hS : XS f n x0 (.inr i) d) (hX : XH 12 d H) (hb : nP H < 4) (h : ∀ d', XS f n x0 (sPl f n i) d' → (∀ i1 i2 i3 i4, sNum f n 0 9 i = .inr i1 → sNum f n 1 99 i1 = .inr i2 → sNum f n 0 9 i2 = .inr i3 → sNum f n 0 3 i3 = .inr i4 → XH 12 d' (aP H (tV f n i) (tV f n i1) (tV f n i2) (tV f n i3))) → q d') : Cn SX MX3_tellPlayer [.ref 36, .ref 12] d (rV q) := by
  have e3 := hX.np
  have vp : vp_in (nI (nP H)) 4 := vp_in_nI (by omega) (by omega)
  refine cn_X3_tellPlayer isH12 (br_t (by rw [e3]; exact (nI_ltI (b := 4) (by omega) (by omega)).mpr hb) (nm_e ?_))
  rw [e3, nI_1, nI_clamp (by omega)]
  refine X_next (lo := 0) (hi := 9) (hS.put (fun a ha => up_ne a (by omega))) (by omega) (by omega) (fun v1 d1 _ _ s1 ev1 f1 => ⟨vp, nm_e ?_⟩)
  refine X_next (lo := 1) (hi := 99) (s1.put (fun a ha => up_ne a (by omega))) (by omega) (by omega) (fun v2 d2 _ _ s2 ev2 f2 => ⟨vp, nm_e ?_⟩)
  refine X_next (lo := 0) (hi := 9) (s2.put (fun a ha => up_ne a (by omega))) (by omega) (by omega) (fun v3 d3 _ _ s3 ev3 f3 => ⟨vp, nm_e ?_⟩)
  refine X_next (lo := 0) (hi := 3) (s3.put (fun a ha => up_ne a (by omega))) (by omega) (by omega) (fun v4 d4 _ _ s4 ev4 f4 => ⟨vp, nm_e ?_⟩)
  refine X_adv (s4.put (fun a ha => up_ne a (by omega))) (fun d5 s5 f5 => X_sign s5 fun d6 s6 f6 => h d6 s6 fun i1 i2 i3 i4 g1 g2 g3 g4 => ?_)
  have w1 := ev1 i i1 rfl g1
  have w2 := ev2 i1 i2 g1 g2
  have w3 := ev3 i2 i3 (by show sB (sNum f n 1 99) (sNum f n 0 9 i) = _; rw [g1]; exact g2) g3
  have w4 := ev4 i3 i4 (by show sB (sNum f n 0 9) (sB (sNum f n 1 99) (sNum f n 0 9 i)) = _; rw [g1]; show sB (sNum f n 0 9) (sNum f n 1 99 i1) = _; rw [g2]; exact g3) g4
  subst w1 w2 w3 w4
  refine XH_aP hX (fun a j h1 h2 h3 h4 => ?_) ?_ ?_ ?_ ?_ ?_
  · rw [f6 a (by omega), f5 a (by omega), up_n (by omega), f4 a (by omega), up_n (by omega), f3 a (by omega), up_n (by omega), f2 a (by omega), up_n (by omega), f1 a (by omega), up_n (by omega)]
  · rw [f6 12 (by omega), f5 12 (by omega), up_n (by omega), f4 12 (by omega), up_n (by omega), f3 12 (by omega), up_n (by omega), f2 12 (by omega), up_n (by omega), f1 12 (by omega), up_s]
  · rw [f6 18 (by omega), f5 18 (by omega), up_n (by omega), f4 18 (by omega), up_n (by omega), f3 18 (by omega), up_n (by omega), f2 18 (by omega), up_s]
  · rw [f6 19 (by omega), f5 19 (by omega), up_n (by omega), f4 19 (by omega), up_n (by omega), f3 19 (by omega), up_s]
  · rw [f6 20 (by omega), f5 20 (by omega), up_n (by omega), f4 20 (by omega), up_s]
  · rw [f6 21 (by omega), f5 21 (by omega), up_s]
/-- the notes behind the first: r more may come; w: which FAULT a 9th is -/
def sNt (w : Nat → Nat) (f : Nat → Nat) (n : Nat) : Nat → Nat → Nat → (Nat → Nat) → Sum (Nat × Nat) (Nat × (Nat → Nat) × Nat)
  | 0, c, i, g => .inr (c, g, i)
  | r + 1, c, i, g => if tK f n i = 2 then (if c = 8 then .inl (w (tV f n i), tP f n i) else if tV f n i ≤ 9 then sNt w f n r (c + 1) (tN f n i) (fun j => if j = c then tV f n i else g j) else .inl (3, tP f n i)) else .inr (c, g, i)
def sNtS (f : Nat → Nat) (n : Nat) (s : Sum (Nat × Nat) (Nat × (Nat → Nat) × Nat)) : Sg := match s with
  | .inl e => .inl e
  | .inr z => sSgn f n z.2.2
def wX (v : Nat) : Nat := if v ≤ 9 then 5 else 3
def wM (_ : Nat) : Nat := 5
/-- what the notes' loop leaves -/
def FN (t : Nat) (d d' : DD) : Prop := (∀ a, a ≠ 36 → a ≠ 14 → a ≠ 17 → d' a = d a) ∧ (∀ j, j ≠ t → d' 14 j = d 14 j) ∧ ∀ j, ¬ (8 * t ≤ j ∧ j < 8 * t + 8) → d' 17 j = d 17 j
theorem FN.tr {t : Nat} {a b c : DD} (h : FN t a b) (h2 : FN t b c) : FN t a c := ⟨fun x u v w => (h2.1 x u v w).trans (h.1 x u v w), fun j hj => (h2.2.1 j hj).trans (h.2.1 j hj), fun j hj => (h2.2.2 j hj).trans (h.2.2 j hj)⟩
theorem FN.of {t : Nat} {d d' : DD} (h : ∀ a, a ≠ 36 → d' a = d a) : FN t d d' := ⟨fun a u _ _ => h a u, fun j _ => by rw [h 14 (by omega)], fun j _ => by rw [h 17 (by omega)]⟩
theorem X_notes_bad {q : DD → Prop} {x0 : DD} {f : Nat → Nat} {n t : Nat} {l2 l4 : Int32} {d : DD} {e : Nat × Nat} (hA : XA f n x0 (.inl e) d) (h : ∀ d', XS f n x0 (.inl e) d' → FN t d d' → q d') : Ev SX MX3_tellTune 93 [.ref 36, .ref 12, .int l2, .int (nI t), .int l4, uJ] [] d (rV q) := by
  have sg : Cn SX MX3_sign [.ref 36] d (rV fun d2 => q d2) := X_sign hA fun d' s g => h d' s (FN.of g)
  obtain ⟨hB, hF, -⟩ := hA
  obtain ⟨k1, k2, k3⟩ := hF
  refine bk_X3_tellTune_93 isH12 ⟨fun _ => sg, fun _ => rr_f ?_ sg⟩
  rw [k2]; exact lit_ne (b := 0) (by have := k1.2.1; omega) (by omega) (by have := k1.1; omega)
theorem X_notes {q : DD → Prop} {x0 : DD} {f : Nat → Nat} {n t : Nat} {l2 : Int32} (ht : t < 4) : ∀ r c i g d, r + c = 9 → 1 ≤ c → c ≤ 8 → XA f n x0 (.inr i) d → d 14 t = nI c → (∀ j, j < c → d 17 (8 * t + j) = nI (g j)) → (∀ d', XS f n x0 (sNtS f n (sNt wX f n r c i g)) d' → FN t d d' → (∀ c' g' i', sNt wX f n r c i g = .inr (c', g', i') → c' ≤ 8 ∧ d' 14 t = nI c' ∧ ∀ j, j < c' → d' 17 (8 * t + j) = nI (g' j)) → q d') → Ev SX MX3_tellTune 93 [.ref 36, .ref 12, .int l2, .int (nI t), .int (nI c), uJ] [] d (rV q) := by
  intro r
  induction r with
  | zero => intro c i g d h9 h1 h8; omega
  | succ r ih =>
    intro c i g d h9 h1 h8 hA e14 e17 h
    obtain ⟨hB, hF, i', hi', hk, hj⟩ := id hA
    have hii := hj i rfl
    subst hii
    have hK := tK_le (f := f) (n := n) (i := i)
    refine bk_X3_tellTune_93 isH12 (br_f ?_ ?_)
    · exact fun z => absurd ((nI_ltI (a := 8) (by omega) (by omega)).mp z) (by omega)
    have e2 : d 36 2 = 0 := hF
    refine rr_t e2 ?_
    rw [hk.1]
    by_cases c2 : tK f n i = 2
    · refine rr_t (by rw [c2]; rfl) ?_
      refine X_number (lo := 0) (hi := 9) hA (by omega) (by omega) (fun v d1 v0 v9 s1 ev f1 f2 => ?_)
      by_cases c8 : c = 8
      · refine rr_t (by rw [c8]; rfl) ?_
        have e5 : d1 36 5 = nI (tP f n i) := by rw [f2 5 (by omega) (by omega)]; exact hk.2.1
        have hT1 : XTk f n i d1 := hk.same (fun j hj => f2 j (by omega) (by omega))
        have es : sNt wX f n (r + 1) c i g = .inl (wX (tV f n i), tP f n i) := by
          show (if tK f n i = 2 then _ else _) = _
          rw [if_pos c2, if_pos c8]
        rw [es] at h
        have hFO : FO n (fO (oS (sNum f n 0 9 i)) (5, tP f n i)) = FO n (some (wX (tV f n i), tP f n i)) := by
          unfold sNum wX
          rw [if_neg (by omega), if_pos c2]
          by_cases z : tV f n i ≤ 9
          · rw [if_pos ⟨Nat.zero_le _, z⟩, if_pos z]; rfl
          · rw [if_neg (fun y => z y.2), if_neg z]; rfl
        rw [e5]
        refine X_fail (c := 5) s1.2.1 hB.1 (by omega) (by omega) (tP_le hi') (fun d2 g1 g2 g3 => ?_)
        have g1' : FO n (some (wX (tV f n i), tP f n i)) d2 := by rw [← hFO]; exact g1
        rw [nI_1]
        refine X_notes_bad (t := t) ⟨⟨hB.1, hB.2.1, ?_, fun k hk => ?_, fun a ha hb => ?_⟩, g1', i, hi', hT1.same (fun j hj => g3 j (by omega) (by omega)), fun j e => by cases e⟩ (fun d' s f3 => h d' s (((FN.of f1).tr (FN.of g2)).tr f3) (fun c' g' i' e => by cases e))
        · rw [g3 1 (by omega) (by omega)]; exact s1.1.2.2.1
        · rw [g2 37 (by omega)]; exact s1.1.2.2.2.1 k hk
        · rw [g2 a ha]; exact s1.1.2.2.2.2 a ha hb
      · refine rr_f (lit_ne (b := 8) (by omega) (by omega) c8) ⟨?_, nm_e ⟨vp_in_nI (by omega) (by omega), nm_e ?_⟩⟩
        · rw [show nI t * 8 = nI (8 * t) from by rw [show (8 : Int32) = nI 8 from rfl, pk_mul, Nat.mul_comm], nI_add]; exact vp_in_nI (by omega) (by omega)
        rw [show nI t * 8 = nI (8 * t) from by rw [show (8 : Int32) = nI 8 from rfl, pk_mul, Nat.mul_comm], nI_add, nI_clamp (by omega), nI_clamp (by omega), nI_1]
        refine X_adv ((s1.put (d' := up d1 17 (8 * t + c) (nI v)) (fun a ha => up_ne a (by omega))).put (d' := up (up d1 17 (8 * t + c) (nI v)) 14 t (nI (c + 1))) (fun a ha => up_ne a (by omega))) (fun d2 s2 f3 => ?_)
        have fr : FN t d d2 := by
          refine ⟨fun a u v w => ?_, fun j hj => ?_, fun j hj => ?_⟩
          · rw [f3 a u, up_ne a v, up_ne a w, f1 a u]
          · rw [f3 14 (by omega), up_n (by omega), up_n (by omega), f1 14 (by omega)]
          · rw [f3 17 (by omega), up_n (by omega), up_n (by omega), f1 17 (by omega)]
        have es : sNt wX f n (r + 1) c i g = if tV f n i ≤ 9 then sNt wX f n r (c + 1) (tN f n i) (fun j => if j = c then tV f n i else g j) else .inl (3, tP f n i) := by
          show (if tK f n i = 2 then _ else _) = _
          rw [if_pos c2, if_neg c8]
        rw [es] at h
        have en : sNum f n 0 9 i = if tV f n i ≤ 9 then .inr (tN f n i) else .inl (3, tP f n i) := by
          unfold sNum
          rw [if_neg (by omega), if_pos c2]
          by_cases z : tV f n i ≤ 9
          · rw [if_pos ⟨Nat.zero_le _, z⟩, if_pos z]
          · rw [if_neg (fun y => z y.2), if_neg z]
        have s2' : XA f n x0 (sNum f n 0 9 i) d2 := s2
        rw [en] at s2'
        by_cases z : tV f n i ≤ 9
        · rw [if_pos z] at s2' h
          have w1 := ev i _ rfl (by rw [en, if_pos z])
          subst w1
          refine ih (c + 1) (tN f n i) (fun j => if j = c then tV f n i else g j) d2 (by omega) (by omega) (by omega) s2' ?_ (fun j hj => ?_) (fun d' s3 f4 ok => h d' s3 (fr.tr f4) ok)
          · rw [f3 14 (by omega), up_s]
          · rw [f3 17 (by omega), up_n (by omega)]
            by_cases y : j = c
            · rw [y, up_s]; show _ = nI (if c = c then _ else _); rw [if_pos rfl]
            · rw [up_n (by omega), f1 17 (by omega), e17 j (by omega)]; show _ = nI (if j = c then _ else _); rw [if_neg y]
        · rw [if_neg z] at s2' h
          exact X_notes_bad (t := t) s2' (fun d' s f4 => h d' s (fr.tr f4) (fun c' g' i' e => by cases e))
    · refine rr_f (lit_ne (b := 2) (by omega) (by omega) c2) ?_
      have es : sNt wX f n (r + 1) c i g = .inr (c, g, i) := by
        show (if tK f n i = 2 then _ else _) = _
        rw [if_neg c2]
      rw [es] at h
      refine X_sign hA (fun d' s f3 => h d' s (FN.of f3) (fun c' g' i' e => ?_))
      cases e
      exact ⟨h8, by rw [f3 14 (by omega)]; exact e14, fun j hj => by rw [f3 17 (by omega)]; exact e17 j hj⟩
