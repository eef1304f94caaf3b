/-! ===== lines, purely: a FAULT, or the house and the place behind ===== -/
abbrev Rl : Type := Sum (Nat × Nat) (HH × Nat)
def rB {α : Type} (g : Nat → Sum (Nat × Nat) α) : Sg → Sum (Nat × Nat) α
  | .inl e => .inl e
  | .inr i => g i
def rTu (w : Nat → Nat) (f : Nat → Nat) (n i k : Nat) (H : HH) : Rl := rB (fun i1 => rB (fun i2 => rB (fun i3 => match sNt w f n 8 1 i3 (g0 (tV f n i2)) with
  | .inl e => .inl e
  | .inr z => rB (fun i4 => .inr (aT H k (tV f n i) (tV f n i1) z.1 z.2.1, i4)) (sSgn f n z.2.2)) (sNum f n 0 9 i2)) (sNum f n 0 9 i1)) (sNum f n 1 9 i)
def rPl (f : Nat → Nat) (n i : Nat) (H : HH) : Rl := rB (fun i1 => rB (fun i2 => rB (fun i3 => rB (fun i4 => rB (fun i5 => .inr (aP H (tV f n i) (tV f n i1) (tV f n i2) (tV f n i3), i5)) (sSgn f n i4)) (sNum f n 0 3 i3)) (sNum f n 0 9 i2)) (sNum f n 1 99 i1)) (sNum f n 0 9 i)
def rBd (f : Nat → Nat) (n i : Nat) (H : HH) : Rl := rB (fun i1 => rB (fun i2 => .inr (aB H (tV f n i), i2)) (sSgn f n i1)) (sNum f n 0 3 i)
def nmK (f : Nat → Nat) (n i k : Nat) : Bool := decide (tK f n i = 1) && nmI f k (tP f n i) (tN f n i)
/-- a line of which the first token is the one behind i -/
def sLn (w : Nat → Nat) (f : Nat → Nat) (n i : Nat) (H : HH) : Rl :=
  if tK f n i = 4 then .inl (1, tP f n i)
  else if nmK f n i 0 = true then (if nT H < 4 then rTu w f n (tN f n i) 0 H else .inl (5, tP f n i))
  else if nmK f n i 1 = true then (if nT H < 4 then rTu w f n (tN f n i) 1 H else .inl (5, tP f n i))
  else if nmK f n i 2 = true then (if nT H < 4 then rTu w f n (tN f n i) 2 H else .inl (5, tP f n i))
  else if nmK f n i 3 = true then (if nT H < 4 then rTu w f n (tN f n i) 3 H else .inl (5, tP f n i))
  else if nmK f n i 4 = true then (if nP H < 4 then rPl f n (tN f n i) H else .inl (5, tP f n i))
  else if nmK f n i 5 = true then (if nB H < 6 then rBd f n (tN f n i) H else .inl (5, tP f n i))
  else .inl (2, tP f n i)
/-- what the class has behind a line -/
def PLn (f : Nat → Nat) (n : Nat) (x0 : DD) (R : Rl) (d : DD) : Prop := match R with
  | .inl e => XS f n x0 (.inl e) d
  | .inr z => XS f n x0 (.inr z.2) d ∧ XH 12 d z.1
theorem PL_Tu {f : Nat → Nat} {n i k : Nat} {x0 d : DD} {H : HH} (hS : XS f n x0 (sTu wX f n i) d) (ho : ∀ i1 i2 i3 c g i', sNum f n 1 9 i = .inr i1 → sNum f n 0 9 i1 = .inr i2 → sNum f n 0 9 i2 = .inr i3 → sNt wX f n 8 1 i3 (g0 (tV f n i2)) = .inr (c, g, i') → XH 12 d (aT H k (tV f n i) (tV f n i1) c g)) : PLn f n x0 (rTu wX f n i k H) d := by
  unfold rTu
  unfold sTu at hS
  rcases z1 : sNum f n 1 9 i with e | i1
  · rw [z1] at hS; exact hS
  rw [z1] at hS
  have hS : XS f n x0 (sB (fun i2 => sB (fun i3 => sNtS f n (sNt wX f n 8 1 i3 (g0 (tV f n i2)))) (sNum f n 0 9 i2)) (sNum f n 0 9 i1)) d := hS
  show PLn f n x0 (rB _ (sNum f n 0 9 i1)) d
  rcases z2 : sNum f n 0 9 i1 with e | i2
  · rw [z2] at hS; exact hS
  rw [z2] at hS
  have hS : XS f n x0 (sB (fun i3 => sNtS f n (sNt wX f n 8 1 i3 (g0 (tV f n i2)))) (sNum f n 0 9 i2)) d := hS
  show PLn f n x0 (rB _ (sNum f n 0 9 i2)) d
  rcases z3 : sNum f n 0 9 i2 with e | i3
  · rw [z3] at hS; exact hS
  rw [z3] at hS
  have hS : XS f n x0 (sNtS f n (sNt wX f n 8 1 i3 (g0 (tV f n i2)))) d := hS
  have ho := ho i1 i2 i3
  show PLn f n x0 (match sNt wX f n 8 1 i3 (g0 (tV f n i2)) with
    | .inl e => .inl e
    | .inr z => rB (fun i4 => .inr (aT H k (tV f n i) (tV f n i1) z.1 z.2.1, i4)) (sSgn f n z.2.2)) d
  rcases z4 : sNt wX f n 8 1 i3 (g0 (tV f n i2)) with e | ⟨c, g, i'⟩
  · rw [z4] at hS; exact hS
  rw [z4] at hS
  have hS : XS f n x0 (sSgn f n i') d := hS
  have ho := ho c g i' z1 z2 z3 z4
  show PLn f n x0 (rB _ (sSgn f n i')) d
  rcases z5 : sSgn f n i' with e | i4
  · rw [z5] at hS; exact hS
  rw [z5] at hS
  exact ⟨hS, ho⟩
theorem PL_Pl {f : Nat → Nat} {n i : Nat} {x0 d : DD} {H : HH} (hS : XS f n x0 (sPl f n i) d) (ho : ∀ i1 i2 i3 i4, sNum f n 0 9 i = .inr i1 → sNum f n 1 99 i1 = .inr i2 → sNum f n 0 9 i2 = .inr i3 → sNum f n 0 3 i3 = .inr i4 → XH 12 d (aP H (tV f n i) (tV f n i1) (tV f n i2) (tV f n i3))) : PLn f n x0 (rPl f n i H) d := by
  unfold rPl
  unfold sPl at hS
  rcases z1 : sNum f n 0 9 i with e | i1
  · rw [z1] at hS; exact hS
  rw [z1] at hS
  have hS : XS f n x0 (sB (sSgn f n) (sB (sNum f n 0 3) (sB (sNum f n 0 9) (sNum f n 1 99 i1)))) d := hS
  show PLn f n x0 (rB _ (sNum f n 1 99 i1)) d
  rcases z2 : sNum f n 1 99 i1 with e | i2
  · rw [z2] at hS; exact hS
  rw [z2] at hS
  have hS : XS f n x0 (sB (sSgn f n) (sB (sNum f n 0 3) (sNum f n 0 9 i2))) d := hS
  show PLn f n x0 (rB _ (sNum f n 0 9 i2)) d
  rcases z3 : sNum f n 0 9 i2 with e | i3
  · rw [z3] at hS; exact hS
  rw [z3] at hS
  have hS : XS f n x0 (sB (sSgn f n) (sNum f n 0 3 i3)) d := hS
  show PLn f n x0 (rB _ (sNum f n 0 3 i3)) d
  rcases z4 : sNum f n 0 3 i3 with e | i4
  · rw [z4] at hS; exact hS
  rw [z4] at hS
  have hS : XS f n x0 (sSgn f n i4) d := hS
  show PLn f n x0 (rB _ (sSgn f n i4)) d
  rcases z5 : sSgn f n i4 with e | i5
  · rw [z5] at hS; exact hS
  rw [z5] at hS
  exact ⟨hS, ho i1 i2 i3 i4 z1 z2 z3 z4⟩
theorem PL_Bd {f : Nat → Nat} {n i : Nat} {x0 d : DD} {H : HH} (hS : XS f n x0 (sBd f n i) d) (ho : ∀ i1, sNum f n 0 3 i = .inr i1 → XH 12 d (aB H (tV f n i))) : PLn f n x0 (rBd f n i H) d := by
  unfold rBd
  unfold sBd at hS
  rcases z1 : sNum f n 0 3 i with e | i1
  · rw [z1] at hS; exact hS
  rw [z1] at hS
  have hS : XS f n x0 (sSgn f n i1) d := hS
  show PLn f n x0 (rB _ (sSgn f n i1)) d
  rcases z5 : sSgn f n i1 with e | i5
  · rw [z5] at hS; exact hS
  rw [z5] at hS
  exact ⟨hS, ho i1 z1⟩
/-- between lines: what is told so far is in its bounds -/
def OKw (H : HH) : Prop := nT H ≤ 4 ∧ nP H ≤ 4 ∧ nB H ≤ 6 ∧ (∀ t, t < nT H → OKt H t) ∧ (∀ p, p < nP H → H 5 p ≤ 9 ∧ 1 ≤ H 6 p ∧ H 6 p ≤ 99 ∧ H 7 p ≤ 9 ∧ H 8 p ≤ 3) ∧ ∀ q, q < nB H → H 9 q ≤ 3
theorem OKw.o8 {H : HH} (h : OKw H) : O8 H := fun t ht => (h.2.2.2.1 t ht).2.2.1
theorem sNum_r {f : Nat → Nat} {n lo hi i i' : Nat} (h : sNum f n lo hi i = .inr i') : lo ≤ tV f n i ∧ tV f n i ≤ hi ∧ i' = tN f n i ∧ tK f n i = 2 := by
  unfold sNum at h
  split at h
  · cases h
  · split at h
    · split at h
      · rename_i a b c; cases h; exact ⟨c.1, c.2, rfl, b⟩
      · cases h
    · cases h
theorem sSgn_r {f : Nat → Nat} {n i i' : Nat} (h : sSgn f n i = .inr i') : i' = tN f n i ∧ tK f n i = 3 := by
  unfold sSgn at h
  split at h
  · cases h
  · split at h
    · rename_i a b; cases h; exact ⟨rfl, b⟩
    · cases h
theorem stepN {f : Nat → Nat} {n i i' : Nat} (hi : i ≤ n) (e : i' = tN f n i) (hk : tK f n i ≠ 0) : i < i' ∧ i' ≤ n := by
  subst e
  exact ⟨tN_gt hi hk, tN_le hi⟩
theorem sNt_r {w : Nat → Nat} {f : Nat → Nat} {n : Nat} : ∀ r c i g c' g' i', r + c = 9 → 1 ≤ c → c ≤ 8 → i ≤ n → (∀ j, j < c → g j ≤ 9) → sNt w f n r c i g = .inr (c', g', i') → 1 ≤ c' ∧ c' ≤ 8 ∧ i ≤ i' ∧ i' ≤ n ∧ ∀ j, j < c' → g' j ≤ 9 := by
  intro r
  induction r with
  | zero => intro c i g c' g' i' h1 h2 h3; omega
  | succ r ih =>
    intro c i g c' g' i' h1 h2 h3 hi hg e
    have e : (if tK f n i = 2 then (if c = 8 then (.inl (w (tV f n i), tP f n i) : Sum (Nat × Nat) (Nat × (Nat → Nat) × Nat)) else if tV f n i ≤ 9 then sNt w f n r (c + 1) (tN f n i) (fun j => if j = c then tV f n i else g j) else .inl (3, tP f n i)) else .inr (c, g, i)) = .inr (c', g', i') := e
    by_cases c2 : tK f n i = 2
    · rw [if_pos c2] at e
      by_cases c8 : c = 8
      · rw [if_pos c8] at e; cases e
      · rw [if_neg c8] at e
        by_cases z : tV f n i ≤ 9
        · rw [if_pos z] at e
          have st := stepN hi rfl (show tK f n i ≠ 0 by omega)
          obtain ⟨a1, a2, a3, a4, a5⟩ := ih (c + 1) _ _ c' g' i' (by omega) (by omega) (by omega) st.2 (fun j hj => by
            show (if j = c then _ else _) ≤ 9
            split
            · exact z
            · exact hg j (by omega)) e
          exact ⟨a1, a2, (by omega), a4, a5⟩
        · rw [if_neg z] at e; cases e
    · rw [if_neg c2] at e
      cases e
      exact ⟨h2, h3, Nat.le_refl _, hi, hg⟩
theorem OKw_aT {H : HH} {k tm sr c : Nat} {g : Nat → Nat} (h : OKw H) (ht : nT H < 4) (hk : k ≤ 3) (h1 : 1 ≤ tm ∧ tm ≤ 9) (h2 : sr ≤ 9) (hc : 1 ≤ c ∧ c ≤ 8) (hg : ∀ j, j < c → g j ≤ 9) : OKw (aT H k tm sr c g) := by
  obtain ⟨a1, a2, a3, a4, a5, a6⟩ := h
  have e0 : nT (aT H k tm sr c g) = nT H + 1 := by show aT H k tm sr c g 10 0 = _; unfold aT; rw [if_neg (by omega), if_neg (by omega), if_neg (by omega), if_neg (by omega), if_neg (by omega), if_pos ⟨rfl, rfl⟩]
  have e1 : nP (aT H k tm sr c g) = nP H := by show aT H k tm sr c g 10 1 = _; unfold aT; rw [if_neg (by omega), if_neg (by omega), if_neg (by omega), if_neg (by omega), if_neg (by omega), if_neg (by omega)]
  have e2 : nB (aT H k tm sr c g) = nB H := by show aT H k tm sr c g 10 2 = _; unfold aT; rw [if_neg (by omega), if_neg (by omega), if_neg (by omega), if_neg (by omega), if_neg (by omega), if_neg (by omega)]
  have ee : ∀ a j, 5 ≤ a ∧ a ≤ 9 → aT H k tm sr c g a j = H a j := fun a j h => by unfold aT; rw [if_neg (by omega), if_neg (by omega), if_neg (by omega), if_neg (by omega), if_neg (by omega), if_neg (by omega)]
  refine ⟨by rw [e0]; omega, by rw [e1]; exact a2, by rw [e2]; exact a3, fun t ht2 => ?_, fun p hp => ?_, fun q hq => ?_⟩
  · rw [e0] at ht2
    by_cases z : t = nT H
    · subst z
      have c1 : aT H k tm sr c g 1 (nT H) = c := by unfold aT; rw [if_neg (by omega), if_pos ⟨rfl, rfl⟩]
      refine ⟨?_, ?_, ?_, ?_, ?_, ?_, fun i hi => ?_⟩
      · rw [show aT H k tm sr c g 0 (nT H) = k from if_pos ⟨rfl, rfl⟩]; exact hk
      · rw [c1]; exact hc.1
      · rw [c1]; exact hc.2
      · rw [show aT H k tm sr c g 2 (nT H) = tm from by unfold aT; rw [if_neg (by omega), if_neg (by omega), if_pos ⟨rfl, rfl⟩]]; exact h1.1
      · rw [show aT H k tm sr c g 2 (nT H) = tm from by unfold aT; rw [if_neg (by omega), if_neg (by omega), if_pos ⟨rfl, rfl⟩]]; exact h1.2
      · rw [show aT H k tm sr c g 3 (nT H) = sr from by unfold aT; rw [if_neg (by omega), if_neg (by omega), if_neg (by omega), if_pos ⟨rfl, rfl⟩]]; exact h2
      · rw [c1] at hi
        rw [show aT H k tm sr c g 4 (8 * nT H + i) = g i from by unfold aT; rw [if_neg (by omega), if_neg (by omega), if_neg (by omega), if_neg (by omega), if_pos ⟨rfl, (by omega), (by omega)⟩, Nat.add_sub_cancel_left]]
        exact hg i hi
    · have ht3 : t < nT H := by omega
      have ej : ∀ a, a ≤ 3 → aT H k tm sr c g a t = H a t := fun a h => by unfold aT; rw [if_neg (by omega), if_neg (by omega), if_neg (by omega), if_neg (by omega), if_neg (by omega), if_neg (by omega)]
      obtain ⟨b1, b2, b3, b4, b5, b6, b7⟩ := a4 t ht3
      refine ⟨by rw [ej 0 (by omega)]; exact b1, by rw [ej 1 (by omega)]; exact b2, by rw [ej 1 (by omega)]; exact b3, by rw [ej 2 (by omega)]; exact b4, by rw [ej 2 (by omega)]; exact b5, by rw [ej 3 (by omega)]; exact b6, fun i hi => ?_⟩
      rw [ej 1 (by omega)] at hi
      rw [show aT H k tm sr c g 4 (8 * t + i) = H 4 (8 * t + i) from by unfold aT; rw [if_neg (by omega), if_neg (by omega), if_neg (by omega), if_neg (by omega), if_neg (by omega), if_neg (by omega)]]
      exact b7 i hi
  · rw [e1] at hp
    rw [ee 5 _ (by omega), ee 6 _ (by omega), ee 7 _ (by omega), ee 8 _ (by omega)]; exact a5 p hp
  · rw [e2] at hq
    rw [ee 9 _ (by omega)]; exact a6 q hq
theorem OKw_aP {H : HH} {s b p w : Nat} (h : OKw H) (ht : nP H < 4) (h1 : s ≤ 9) (h2 : 1 ≤ b ∧ b ≤ 99) (h3 : p ≤ 9) (h4 : w ≤ 3) : OKw (aP H s b p w) := by
  obtain ⟨a1, a2, a3, a4, a5, a6⟩ := h
  have e0 : nT (aP H s b p w) = nT H := by show aP H s b p w 10 0 = _; unfold aP; rw [if_neg (by omega), if_neg (by omega), if_neg (by omega), if_neg (by omega), if_neg (by omega)]
  have e1 : nP (aP H s b p w) = nP H + 1 := by show aP H s b p w 10 1 = _; unfold aP; rw [if_neg (by omega), if_neg (by omega), if_neg (by omega), if_neg (by omega), if_pos ⟨rfl, rfl⟩]
  have e2 : nB (aP H s b p w) = nB H := by show aP H s b p w 10 2 = _; unfold aP; rw [if_neg (by omega), if_neg (by omega), if_neg (by omega), if_neg (by omega), if_neg (by omega)]
  have ee : ∀ a j, a ≤ 4 ∨ a = 9 → aP H s b p w a j = H a j := fun a j h => by unfold aP; rw [if_neg (by omega), if_neg (by omega), if_neg (by omega), if_neg (by omega), if_neg (by omega)]
  refine ⟨by rw [e0]; exact a1, by rw [e1]; omega, by rw [e2]; exact a3, fun t ht2 => ?_, fun q hq => ?_, fun q hq => ?_⟩
  · rw [e0] at ht2
    unfold OKt
    rw [ee 0 _ (by omega), ee 1 _ (by omega), ee 2 _ (by omega), ee 3 _ (by omega)]
    obtain ⟨b1, b2, b3, b4, b5, b6, b7⟩ := a4 t ht2
    exact ⟨b1, b2, b3, b4, b5, b6, fun i hi => by rw [ee 4 _ (by omega)]; exact b7 i hi⟩
  · rw [e1] at hq
    by_cases c : q = nP H
    · subst c
      rw [show aP H s b p w 5 (nP H) = s from if_pos ⟨rfl, rfl⟩, show aP H s b p w 6 (nP H) = b from by unfold aP; rw [if_neg (by omega), if_pos ⟨rfl, rfl⟩], show aP H s b p w 7 (nP H) = p from by unfold aP; rw [if_neg (by omega), if_neg (by omega), if_pos ⟨rfl, rfl⟩], show aP H s b p w 8 (nP H) = w from by unfold aP; rw [if_neg (by omega), if_neg (by omega), if_neg (by omega), if_pos ⟨rfl, rfl⟩]]
      exact ⟨h1, h2.1, h2.2, h3, h4⟩
    · have ej : ∀ a, a ≤ 9 → aP H s b p w a q = H a q := fun a h => by unfold aP; rw [if_neg (by omega), if_neg (by omega), if_neg (by omega), if_neg (by omega), if_neg (by omega)]
      rw [ej 5 (by omega), ej 6 (by omega), ej 7 (by omega), ej 8 (by omega)]
      exact a5 q (by omega)
  · rw [e2] at hq
    rw [ee 9 _ (by omega)]; exact a6 q hq
theorem OKw_aB {H : HH} {v : Nat} (h : OKw H) (ht : nB H < 6) (h1 : v ≤ 3) : OKw (aB H v) := by
  obtain ⟨a1, a2, a3, a4, a5, a6⟩ := h
  have e0 : nT (aB H v) = nT H := by show aB H v 10 0 = _; unfold aB; rw [if_neg (by omega), if_neg (by omega)]
  have e1 : nP (aB H v) = nP H := by show aB H v 10 1 = _; unfold aB; rw [if_neg (by omega), if_neg (by omega)]
  have e2 : nB (aB H v) = nB H + 1 := by show aB H v 10 2 = _; unfold aB; rw [if_neg (by omega), if_pos ⟨rfl, rfl⟩]
  have ee : ∀ a j, a ≤ 8 → aB H v a j = H a j := fun a j h => by unfold aB; rw [if_neg (by omega), if_neg (by omega)]
  refine ⟨by rw [e0]; exact a1, by rw [e1]; exact a2, by rw [e2]; omega, fun t ht2 => ?_, fun q hq => ?_, fun q hq => ?_⟩
  · rw [e0] at ht2
    unfold OKt
    rw [ee 0 _ (by omega), ee 1 _ (by omega), ee 2 _ (by omega), ee 3 _ (by omega)]
    obtain ⟨b1, b2, b3, b4, b5, b6, b7⟩ := a4 t ht2
    exact ⟨b1, b2, b3, b4, b5, b6, fun i hi => by rw [ee 4 _ (by omega)]; exact b7 i hi⟩
  · rw [e1] at hq
    rw [ee 5 _ (by omega), ee 6 _ (by omega), ee 7 _ (by omega), ee 8 _ (by omega)]
    exact a5 q hq
  · rw [e2] at hq
    by_cases c : q = nB H
    · subst c
      rw [show aB H v 9 (nB H) = v from if_pos ⟨rfl, rfl⟩]; exact h1
    · rw [show aB H v 9 q = H 9 q from by unfold aB; rw [if_neg (by omega), if_neg (by omega)]]
      exact a6 q (by omega)
