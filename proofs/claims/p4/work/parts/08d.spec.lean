/-! the house: 0 kind, 1 notes, 2 times, 3 start (by tune), 4 score (8 t + i), 5 skill, 6 breath, 7 pay, 8 at (by player), 9 bond (by prisoner), 10 how many tunes, players, prisoners -/
abbrev HH : Type := Nat → Nat → Nat
abbrev nT (H : HH) : Nat := H 10 0
abbrev nP (H : HH) : Nat := H 10 1
abbrev nB (H : HH) : Nat := H 10 2
def rowL (k n : Nat) : Nat := if k = 1 then n + (n + 1) / 2 else if k = 2 then 2 * n else n
def lenB (H : HH) (t k : Nat) : Nat := H 2 t * rowL k (H 1 t)
def lenO (H : HH) (t : Nat) : Nat := lenB H t (H 0 t)
/-- the note i of a row -/
def noteN (H : HH) (t k i : Nat) : Nat :=
  let w := H 4 (8 * t + (if i < H 1 t then i else if k = 2 then 2 * H 1 t - 1 - i else i - H 1 t))
  if k = 3 then w - 1 else w
/-- the note of a minute, -4: none -/
def noteB (H : HH) (t k m : Nat) : Int32 := if m < H 3 t ∨ lenB H t k ≤ m - H 3 t then -4 else nI (noteN H t k ((m - H 3 t) % rowL k (H 1 t)))
def OKt (H : HH) (t : Nat) : Prop := H 0 t ≤ 3 ∧ 1 ≤ H 1 t ∧ H 1 t ≤ 8 ∧ 1 ≤ H 2 t ∧ H 2 t ≤ 9 ∧ H 3 t ≤ 9 ∧ ∀ i, i < H 1 t → H 4 (8 * t + i) ≤ 9
def OKp (H : HH) (p : Nat) : Prop := H 5 p ≤ 9 ∧ 1 ≤ H 6 p ∧ H 6 p ≤ 99 ∧ H 7 p ≤ 9 ∧ H 8 p < nT H
def OKH (H : HH) : Prop := nT H ≤ 4 ∧ nP H ≤ 4 ∧ nB H ≤ 6 ∧ (∀ t, t < nT H → OKt H t) ∧ (∀ p, p < nP H → OKp H p) ∧ ∀ q, q < nB H → H 9 q < nT H
theorem OKH.t4 {H : HH} (ok : OKH H) : nT H ≤ 4 := ok.1
theorem OKH.p4 {H : HH} (ok : OKH H) : nP H ≤ 4 := ok.2.1
theorem OKH.b6 {H : HH} (ok : OKH H) : nB H ≤ 6 := ok.2.2.1
theorem OKH.tt {H : HH} (ok : OKH H) {t : Nat} (h : t < nT H) : OKt H t := ok.2.2.2.1 t h
theorem OKH.pp {H : HH} (ok : OKH H) {p : Nat} (h : p < nP H) : OKp H p := ok.2.2.2.2.1 p h
theorem OKH.bb {H : HH} (ok : OKH H) {q : Nat} (h : q < nB H) : H 9 q < nT H := ok.2.2.2.2.2 q h
theorem rowL_le {k n : Nat} (h : n ≤ 8) : rowL k n ≤ 16 := by unfold rowL; split; · omega
                                                              split <;> omega
theorem rowL_pos {k n : Nat} (h : 1 ≤ n) : 1 ≤ rowL k n := by unfold rowL; split; · omega
                                                              split <;> omega
theorem lenB_le {H : HH} {t k : Nat} (h : OKt H t) : lenB H t k ≤ 144 := by
  obtain ⟨h0, h1, h2, h3, h4, h5, h6⟩ := h
  have := rowL_le (k := k) h2
  calc lenB H t k ≤ 9 * 16 := Nat.mul_le_mul h4 this
    _ = 144 := rfl
theorem lenB_pos {H : HH} {t k : Nat} (h : OKt H t) : 1 ≤ lenB H t k := by
  obtain ⟨h0, h1, h2, h3, h4, h5, h6⟩ := h
  exact Nat.mul_pos h3 (rowL_pos h1)
/-- a place of a row is a place of the notes -/
theorem noteN_ix {H : HH} {t k i : Nat} (h : OKt H t) (hi : i < rowL k (H 1 t)) : (if i < H 1 t then i else if k = 2 then 2 * H 1 t - 1 - i else i - H 1 t) < H 1 t := by
  obtain ⟨h0, h1, h2, h3, h4, h5, h6⟩ := h
  unfold rowL at hi
  split
  · assumption
  · split at hi
    · rw [if_neg (by omega)]; omega
    · split at hi
      · rw [if_pos (by assumption)]; omega
      · omega
theorem noteN_le {H : HH} {t k i : Nat} (h : OKt H t) (hi : i < rowL k (H 1 t)) : noteN H t k i ≤ 9 := by
  have h1 := h.2.2.2.2.2.2 _ (noteN_ix (k := k) h hi)
  unfold noteN
  simp only
  split <;> omega
/-- the class's house at the cells b .. b + 10 -/
def XH (b : Nat) (d : DD) (H : HH) : Prop := d b 0 = nI (nT H) ∧ d b 1 = nI (nP H) ∧ d b 2 = nI (nB H) ∧
  (∀ t, t < nT H → d (b + 1) t = nI (H 0 t) ∧ d (b + 2) t = nI (H 1 t) ∧ d (b + 3) t = nI (H 2 t) ∧ d (b + 4) t = nI (H 3 t) ∧ ∀ i, i < H 1 t → d (b + 5) (8 * t + i) = nI (H 4 (8 * t + i))) ∧
  (∀ p, p < nP H → d (b + 6) p = nI (H 5 p) ∧ d (b + 7) p = nI (H 6 p) ∧ d (b + 8) p = nI (H 7 p) ∧ d (b + 9) p = nI (H 8 p)) ∧ ∀ q, q < nB H → d (b + 10) q = nI (H 9 q)
theorem XH.nt {b : Nat} {d : DD} {H : HH} (h : XH b d H) : d b 0 = nI (nT H) := h.1
theorem XH.np {b : Nat} {d : DD} {H : HH} (h : XH b d H) : d b 1 = nI (nP H) := h.2.1
theorem XH.nb {b : Nat} {d : DD} {H : HH} (h : XH b d H) : d b 2 = nI (nB H) := h.2.2.1
theorem XH.kind {b t : Nat} {d : DD} {H : HH} (h : XH b d H) (ht : t < nT H) : d (b + 1) t = nI (H 0 t) := (h.2.2.2.1 t ht).1
theorem XH.notes {b t : Nat} {d : DD} {H : HH} (h : XH b d H) (ht : t < nT H) : d (b + 2) t = nI (H 1 t) := (h.2.2.2.1 t ht).2.1
theorem XH.times {b t : Nat} {d : DD} {H : HH} (h : XH b d H) (ht : t < nT H) : d (b + 3) t = nI (H 2 t) := (h.2.2.2.1 t ht).2.2.1
theorem XH.start {b t : Nat} {d : DD} {H : HH} (h : XH b d H) (ht : t < nT H) : d (b + 4) t = nI (H 3 t) := (h.2.2.2.1 t ht).2.2.2.1
theorem XH.score {b t i : Nat} {d : DD} {H : HH} (h : XH b d H) (ht : t < nT H) (hi : i < H 1 t) : d (b + 5) (8 * t + i) = nI (H 4 (8 * t + i)) := (h.2.2.2.1 t ht).2.2.2.2 i hi
theorem XH.skill {b p : Nat} {d : DD} {H : HH} (h : XH b d H) (hp : p < nP H) : d (b + 6) p = nI (H 5 p) := (h.2.2.2.2.1 p hp).1
theorem XH.breath {b p : Nat} {d : DD} {H : HH} (h : XH b d H) (hp : p < nP H) : d (b + 7) p = nI (H 6 p) := (h.2.2.2.2.1 p hp).2.1
theorem XH.pay {b p : Nat} {d : DD} {H : HH} (h : XH b d H) (hp : p < nP H) : d (b + 8) p = nI (H 7 p) := (h.2.2.2.2.1 p hp).2.2.1
theorem XH.at {b p : Nat} {d : DD} {H : HH} (h : XH b d H) (hp : p < nP H) : d (b + 9) p = nI (H 8 p) := (h.2.2.2.2.1 p hp).2.2.2
theorem XH.bond {b q : Nat} {d : DD} {H : HH} (h : XH b d H) (hq : q < nB H) : d (b + 10) q = nI (H 9 q) := h.2.2.2.2.2 q hq
theorem XH.kept {b : Nat} {d d' : DD} {H : HH} (h : XH b d H) (e : ∀ a, b ≤ a → a ≤ b + 10 → d' a = d a) : XH b d' H := by
  have e0 := e b (by omega) (by omega)
  have e1 := fun j (hj : j ≤ 10) => e (b + j) (by omega) (by omega)
  unfold XH
  rw [e0, e1 1 (by omega), e1 2 (by omega), e1 3 (by omega), e1 4 (by omega), e1 5 (by omega), e1 6 (by omega), e1 7 (by omega), e1 8 (by omega), e1 9 (by omega), e1 10 (by omega)]
  exact h
/-- the reference's page from place o of row 1 on -/
def MH (o : Nat) (d : DD) (H : HH) : Prop := d 0 1 = nI (nT H) ∧ d 0 2 = nI (nP H) ∧ d 0 3 = nI (nB H) ∧
  (∀ t, t < nT H → d 1 (o + t) = nI (H 0 t) ∧ d 1 (o + (4 + t)) = nI (H 1 t) ∧ d 1 (o + (8 + t)) = nI (H 2 t) ∧ d 1 (o + (12 + t)) = nI (H 3 t) ∧ ∀ i, i < H 1 t → d 1 (o + (16 + (8 * t + i))) = nI (H 4 (8 * t + i))) ∧
  (∀ p, p < nP H → d 1 (o + (48 + p)) = nI (H 5 p) ∧ d 1 (o + (52 + p)) = nI (H 6 p) ∧ d 1 (o + (56 + p)) = nI (H 7 p) ∧ d 1 (o + (60 + p)) = nI (H 8 p)) ∧ ∀ q, q < nB H → d 1 (o + (64 + q)) = nI (H 9 q)
abbrev MH0 (d : DD) (H : HH) : Prop := MH 0 d H
theorem MH.nt {o : Nat} {d : DD} {H : HH} (h : MH o d H) : d 0 1 = nI (nT H) := h.1
theorem MH.np {o : Nat} {d : DD} {H : HH} (h : MH o d H) : d 0 2 = nI (nP H) := h.2.1
theorem MH.nb {o : Nat} {d : DD} {H : HH} (h : MH o d H) : d 0 3 = nI (nB H) := h.2.2.1
theorem MH.kind {t : Nat} {d : DD} {H : HH} (h : MH 0 d H) (ht : t < nT H) : d 1 t = nI (H 0 t) := by have := (h.2.2.2.1 t ht).1; rwa [Nat.zero_add] at this
theorem MH.notes {t : Nat} {d : DD} {H : HH} (h : MH 0 d H) (ht : t < nT H) : d 1 (4 + t) = nI (H 1 t) := by have := (h.2.2.2.1 t ht).2.1; rwa [Nat.zero_add] at this
theorem MH.times {t : Nat} {d : DD} {H : HH} (h : MH 0 d H) (ht : t < nT H) : d 1 (8 + t) = nI (H 2 t) := by have := (h.2.2.2.1 t ht).2.2.1; rwa [Nat.zero_add] at this
theorem MH.start {t : Nat} {d : DD} {H : HH} (h : MH 0 d H) (ht : t < nT H) : d 1 (12 + t) = nI (H 3 t) := by have := (h.2.2.2.1 t ht).2.2.2.1; rwa [Nat.zero_add] at this
theorem MH.score {t i : Nat} {d : DD} {H : HH} (h : MH 0 d H) (ht : t < nT H) (hi : i < H 1 t) : d 1 (16 + (8 * t + i)) = nI (H 4 (8 * t + i)) := by have := (h.2.2.2.1 t ht).2.2.2.2 i hi; rwa [Nat.zero_add] at this
theorem MH.skill {p : Nat} {d : DD} {H : HH} (h : MH 0 d H) (hp : p < nP H) : d 1 (48 + p) = nI (H 5 p) := by have := (h.2.2.2.2.1 p hp).1; rwa [Nat.zero_add] at this
theorem MH.breath {p : Nat} {d : DD} {H : HH} (h : MH 0 d H) (hp : p < nP H) : d 1 (52 + p) = nI (H 6 p) := by have := (h.2.2.2.2.1 p hp).2.1; rwa [Nat.zero_add] at this
theorem MH.pay {p : Nat} {d : DD} {H : HH} (h : MH 0 d H) (hp : p < nP H) : d 1 (56 + p) = nI (H 7 p) := by have := (h.2.2.2.2.1 p hp).2.2.1; rwa [Nat.zero_add] at this
theorem MH.at {p : Nat} {d : DD} {H : HH} (h : MH 0 d H) (hp : p < nP H) : d 1 (60 + p) = nI (H 8 p) := by have := (h.2.2.2.2.1 p hp).2.2.2; rwa [Nat.zero_add] at this
theorem MH.bond {q : Nat} {d : DD} {H : HH} (h : MH 0 d H) (hq : q < nB H) : d 1 (64 + q) = nI (H 9 q) := by have := h.2.2.2.2.2 q hq; rwa [Nat.zero_add] at this
theorem MH.kept {o : Nat} {d d' : DD} {H : HH} (h : MH o d H) (e1 : ∀ j, 1 ≤ j → j ≤ 3 → d' 0 j = d 0 j) (e : ∀ j, o ≤ j → j < o + 70 → d' 1 j = d 1 j) (ok : OKH H) : MH o d' H := by
  obtain ⟨a1, a2, a3, a4, a5, a6⟩ := h
  have o1 := ok.t4; have o2 := ok.p4; have o3 := ok.b6
  refine ⟨by rw [e1 1 (by omega) (by omega)]; exact a1, by rw [e1 2 (by omega) (by omega)]; exact a2, by rw [e1 3 (by omega) (by omega)]; exact a3, fun t ht => ?_, fun p hp => ?_, fun q hq => ?_⟩
  · obtain ⟨b1, b2, b3, b4, b5⟩ := a4 t ht
    have ho := (ok.tt ht).2.2.1
    exact ⟨by rw [e _ (by omega) (by omega)]; exact b1, by rw [e _ (by omega) (by omega)]; exact b2, by rw [e _ (by omega) (by omega)]; exact b3, by rw [e _ (by omega) (by omega)]; exact b4, fun i hi => by rw [e _ (by omega) (by omega)]; exact b5 i hi⟩
  · obtain ⟨b1, b2, b3, b4⟩ := a5 p hp
    exact ⟨by rw [e _ (by omega) (by omega)]; exact b1, by rw [e _ (by omega) (by omega)]; exact b2, by rw [e _ (by omega) (by omega)]; exact b3, by rw [e _ (by omega) (by omega)]; exact b4⟩
  · rw [e _ (by omega) (by omega)]; exact a6 q hq
