/-! more of a playing's numbers: what is heard, what stays -/
theorem hear_5n {H : HH} {m k t : Nat} {P : PL} (h : t ≠ k) : hearS H m P k 5 t = P 5 t := by
  unfold hearS
  split
  · simp [pu_rd, h]
  · split
    · simp [pu_rd, finS, h]
    · split
      · simp [pu_rd, finS, h]
      · split <;> simp [pu_rd, finS, h]
theorem hear_hd {H : HH} {m k : Nat} {P : PL} (h : hearS H m P k 5 k ≠ 0) : P 0 k = 0 ∧ H 3 k ≤ m ∧ P 2 k ≠ lenO H k ∧ hearS H m P k 5 k = noteO H k m + 1 ∧ hearS H m P k 2 k = P 2 k + 1 ∧ hearS H m P k 0 k = 0 := by
  unfold hearS at h ⊢
  split at h
  · exact absurd (by simp [pu_rd]) h
  · rename_i c
    rw [if_neg c]
    split at h
    · exact absurd (by simp [pu_rd]) h
    · rename_i c2
      rw [if_neg c2]
      split at h
      · exact absurd (by simp [pu_rd]) h
      · rename_i c3
        rw [if_neg c3]
        split at h
        · exact absurd (by simp [pu_rd]) h
        · rename_i c4
          rw [if_neg c4]
          refine ⟨by omega, by omega, c2, by simp [pu_rd], by simp [pu_rd], ?_⟩
          simp [pu_rd]; omega
theorem hear_no {H : HH} {m k : Nat} {P : PL} (h : hearS H m P k 5 k = 0) : hearS H m P k 2 k = P 2 k ∧ (hearS H m P k 0 k = P 0 k ∨ (P 0 k = 0 ∧ H 3 k ≤ m ∧ hearS H m P k 0 k = m + 1)) ∧ (P 0 k ≠ 0 ∨ m < H 3 k → hearS H m P k 0 k = P 0 k) := by
  unfold hearS at h ⊢
  split at h
  · rename_i c
    rw [if_pos c]; exact ⟨by simp [pu_rd], Or.inl (by simp [pu_rd]), fun _ => by simp [pu_rd]⟩
  · rename_i c
    rw [if_neg c]
    split at h
    · rename_i c2
      rw [if_pos c2]; exact ⟨by simp [pu_rd, finS], Or.inr ⟨by omega, by omega, by simp [pu_rd, finS]⟩, fun z => absurd z c⟩
    · rename_i c2
      rw [if_neg c2]
      split at h
      · rename_i c3
        rw [if_pos c3]; exact ⟨by simp [pu_rd, finS], Or.inr ⟨by omega, by omega, by simp [pu_rd, finS]⟩, fun z => absurd z c⟩
      · rename_i c3
        rw [if_neg c3]
        split at h
        · rename_i c4
          rw [if_pos c4]; exact ⟨by simp [pu_rd, finS], Or.inr ⟨by omega, by omega, by simp [pu_rd, finS]⟩, fun z => absurd z c⟩
        · simp [pu_rd] at h
theorem hear_n {H : HH} {m k t f : Nat} {P : PL} (h : t ≠ k) (hf : f ≠ 3 ∧ f ≠ 4) : hearS H m P k f t = P f t := by
  unfold hearS
  split
  · simp [pu_rd, h]
  · split
    · simp [pu_rd, finS, h]
    · split
      · simp [pu_rd, finS, h]
      · split <;> simp [pu_rd, finS, h, hf.1, hf.2]
theorem cross_n {H : HH} {m a b f t : Nat} {P : PL} (h : f ≠ 0 ∧ f ≠ 1) : crossS H m P a b f t = P f t := by
  unfold crossS
  split
  · simp [finS, pu_rd, h.1, h.2]
  · rfl
theorem crossI_n {H : HH} {m a f t : Nat} {P : PL} (h : f ≠ 0 ∧ f ≠ 1) (n : Nat) : crossI H m a P n f t = P f t := by
  induction n with
  | zero => rfl
  | succ n ih => exact (cross_n h).trans ih
theorem crossA_n {H : HH} {m f t : Nat} {P : PL} (h : f ≠ 0 ∧ f ≠ 1) (n : Nat) : crossA H m P n f t = P f t := by
  induction n with
  | zero => rfl
  | succ n ih => exact (crossI_n h _).trans ih
/-- an over is laid by a crossing only where a tune sounds -/
theorem cross_0 {H : HH} {m a b t : Nat} {P : PL} : crossS H m P a b 0 t = P 0 t ∨ (P 0 t = 0 ∧ P 5 t ≠ 0 ∧ crossS H m P a b 0 t = m + 1) := by
  unfold crossS
  split
  · rename_i c
    have h := first_lt c.2.2
    simp only [decide_eq_true_eq] at h
    by_cases e : t = thirdS H P a b
    · right
      have h' : t ≠ a ∧ t ≠ b ∧ P 5 t ≠ 0 ∧ P 0 t = 0 := by rw [e]; exact h
      refine ⟨h'.2.2.2, h'.2.2.1, ?_⟩
      rw [e]; simp [finS, pu_rd]
    · left; simp [finS, pu_rd, e]
  · exact Or.inl rfl
theorem crossI_0 {H : HH} {m a t : Nat} {P : PL} (n : Nat) : crossI H m a P n 0 t = P 0 t ∨ (P 0 t = 0 ∧ P 5 t ≠ 0 ∧ crossI H m a P n 0 t = m + 1) := by
  induction n with
  | zero => exact Or.inl rfl
  | succ n ih =>
    have h := cross_0 (H := H) (m := m) (a := a) (b := a + 1 + n) (t := t) (P := crossI H m a P n)
    have h5 : crossI H m a P n 5 t = P 5 t := crossI_n (by decide) n
    have e : crossI H m a P (n + 1) = crossS H m (crossI H m a P n) a (a + 1 + n) := rfl
    rw [e]
    rcases h with h | ⟨h1, h2, h3⟩
    · rw [h]; exact ih
    · rw [h5] at h2
      rcases ih with ih | ih
      · exact Or.inr ⟨by rw [← ih]; exact h1, h2, h3⟩
      · omega
theorem crossA_0 {H : HH} {m t : Nat} {P : PL} (n : Nat) : crossA H m P n 0 t = P 0 t ∨ (P 0 t = 0 ∧ P 5 t ≠ 0 ∧ crossA H m P n 0 t = m + 1) := by
  induction n with
  | zero => exact Or.inl rfl
  | succ n ih =>
    have h := crossI_0 (H := H) (m := m) (a := n) (t := t) (P := crossA H m P n) (nT H - (n + 1))
    have h5 : crossA H m P n 5 t = P 5 t := crossA_n (by decide) n
    have e : crossA H m P (n + 1) = crossI H m n (crossA H m P n) (nT H - (n + 1)) := rfl
    rw [e]
    rcases h with h | ⟨h1, h2, h3⟩
    · rw [h]; exact ih
    · rw [h5] at h2
      rcases ih with ih | ih
      · exact Or.inr ⟨by rw [← ih]; exact h1, h2, h3⟩
      · omega
/-- behind the hearing of k tunes: those from k on as before, those below by one hearing -/
theorem hearA_ge {H : HH} {m : Nat} {P : PL} : ∀ k t f, k ≤ t → f ≠ 3 ∧ f ≠ 4 → hearA H m P k f t = P f t := by
  intro k
  induction k with
  | zero => intro t f _ _; rfl
  | succ k ih =>
    intro t f h hf
    exact (hear_n (H := H) (m := m) (P := hearA H m P k) (by omega) hf).trans (ih t f (by omega) hf)
theorem hearA_lt {H : HH} {m : Nat} {P : PL} : ∀ k t f, t < k → f ≠ 3 ∧ f ≠ 4 → hearA H m P k f t = hearS H m (hearA H m P t) t f t := by
  intro k
  induction k with
  | zero => intro t f h; exact absurd h (Nat.not_lt_zero t)
  | succ k ih =>
    intro t f h hf
    have e : hearA H m P (k + 1) = hearS H m (hearA H m P k) k := rfl
    rw [e]
    by_cases ht : t = k
    · subst ht; rfl
    · rw [hear_n ht hf]; exact ih t f (by omega) hf
/-- the heard ones of a minute -/
theorem hearA_hd {H : HH} {m k t : Nat} {P : PL} (h : t < k) (h5 : hearA H m P k 5 t ≠ 0) : P 0 t = 0 ∧ H 3 t ≤ m ∧ P 2 t ≠ lenO H t ∧ hearA H m P k 5 t = noteO H t m + 1 ∧ hearA H m P k 2 t = P 2 t + 1 ∧ hearA H m P k 0 t = 0 := by
  rw [hearA_lt k t 5 h (by decide)] at h5 ⊢
  rw [hearA_lt k t 2 h (by decide), hearA_lt k t 0 h (by decide)]
  have := hear_hd h5
  rw [hearA_ge t t 0 (Nat.le_refl t) (by decide), hearA_ge t t 2 (Nat.le_refl t) (by decide)] at this
  exact this
theorem hearA_no {H : HH} {m k t : Nat} {P : PL} (h : t < k) (h5 : hearA H m P k 5 t = 0) : hearA H m P k 2 t = P 2 t ∧ (hearA H m P k 0 t = P 0 t ∨ (P 0 t = 0 ∧ H 3 t ≤ m ∧ hearA H m P k 0 t = m + 1)) := by
  rw [hearA_lt k t 5 h (by decide)] at h5
  rw [hearA_lt k t 2 h (by decide), hearA_lt k t 0 h (by decide)]
  have := hear_no h5
  rw [hearA_ge t t 0 (Nat.le_refl t) (by decide), hearA_ge t t 2 (Nat.le_refl t) (by decide)] at this
  exact ⟨this.1, this.2.1⟩
/-- what is over, sounded before -/
def Pov (H : HH) (P : PL) : Prop := ∀ t, t < nT H → P 0 t ≠ 0 → H 3 t + P 2 t ≤ P 0 t
theorem minS_ov {H : HH} {m : Nat} {P : PL} (hI : Pinv H m P) (h : Pov H P) : Pov H (minS H m P) := by
  intro t ht e
  have e2 : minS H m P 2 t = hearA H m P (nT H) 2 t := crossA_n (by decide) _
  have e0 := crossA_0 (H := H) (m := m) (t := t) (P := hearA H m P (nT H)) (nT H)
  have hm : minS H m P 0 t = crossA H m (hearA H m P (nT H)) (nT H) 0 t := rfl
  rw [hm] at e ⊢
  rw [e2]
  by_cases h5 : hearA H m P (nT H) 5 t = 0
  · obtain ⟨h1, h2⟩ := hearA_no ht h5
    rw [h1]
    rcases e0 with e0 | e0
    · rw [e0] at e ⊢
      rcases h2 with h2 | ⟨h2, h3, h4⟩
      · rw [h2] at e ⊢; exact h t ht e
      · rw [h4]
        have := hI.1 t ht h2
        omega
    · exact absurd h5 e0.2.1
  · obtain ⟨h1, h2, h3, h4, h6, h7⟩ := hearA_hd ht h5
    rw [h6]
    have := hI.1 t ht h1
    rcases e0 with e0 | e0
    · rw [e0] at e; exact absurd h7 e
    · rw [e0.2.2]; omega
theorem runS_ov {H : HH} {sil : Nat} (ok : OKH H) : ∀ k, Pov H (runS H sil k) := by
  intro k
  induction k with
  | zero => intro t _ e; exact absurd rfl e
  | succ k ih => exact minS_ov (runS_inv ok k) ih
/-- which tunes sound in minute m -/
def sndB (H : HH) (P : PL) (m t : Nat) : Bool := decide (H 3 t ≤ m ∧ m < H 3 t + P 2 t)
theorem min_snd {H : HH} {m t : Nat} {P : PL} (hI : Pinv H m P) (ho : Pov H P) (ht : t < nT H) : decide (hearA H m P (nT H) 5 t ≠ 0) = sndB H (minS H m P) m t := by
  unfold sndB
  have e2 : minS H m P 2 t = hearA H m P (nT H) 2 t := crossA_n (by decide) _
  rw [e2]
  by_cases h5 : hearA H m P (nT H) 5 t = 0
  · obtain ⟨h1, h2⟩ := hearA_no ht h5
    rw [h1]
    have h6 : ¬ (H 3 t ≤ m ∧ m < H 3 t + P 2 t) := by
      rintro ⟨a, b⟩
      by_cases z : P 0 t = 0
      · have := hI.1 t ht z; omega
      · have := ho t ht z
        have := (hI.2.2.1 t ht).1
        omega
    rw [decide_eq_false h6, h5]; rfl
  · obtain ⟨h1, h2, h3, h4, h6, h7⟩ := hearA_hd ht h5
    have := hI.1 t ht h1
    rw [h6, decide_eq_true h5]
    exact (decide_eq_true ⟨h2, by omega⟩).symm
theorem min_snd_old {H : HH} {m m' t : Nat} {P : PL} (hI : Pinv H m P) (ht : t < nT H) (hm : m' < m) : sndB H (minS H m P) m' t = sndB H P m' t := by
  unfold sndB
  have e2 : minS H m P 2 t = hearA H m P (nT H) 2 t := crossA_n (by decide) _
  rw [e2]
  by_cases h5 : hearA H m P (nT H) 5 t = 0
  · rw [(hearA_no ht h5).1]
  · obtain ⟨h1, h2, h3, h4, h6, h7⟩ := hearA_hd ht h5
    have := hI.1 t ht h1
    rw [h6]
    congr 1
    apply propext
    omega
